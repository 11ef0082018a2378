/-! checks, part 3 -/
theorem ocX10_thrown : kX10_thrown.all (am_okB qX10_thrown) = true := by decide +kernel
theorem ocX10_feed : kX10_feed.all (am_okB qX10_feed) = true := by decide +kernel
theorem ocX10_lay : kX10_lay.all (am_okB qX10_lay) = true := by decide +kernel
theorem ocX10_init_0 : (((kX10_init.drop 0)).take 60).all (am_okB qX10_init) = true := by decide +kernel
theorem ocX10_init_1 : (((kX10_init.drop 60)).take 60).all (am_okB qX10_init) = true := by decide +kernel
theorem ocX10_init_2 : (((kX10_init.drop 120)).take 60).all (am_okB qX10_init) = true := by decide +kernel
theorem ocX10_init_3 : (((kX10_init.drop 180)).take 60).all (am_okB qX10_init) = true := by decide +kernel
theorem ocX10_init : kX10_init.all (am_okB qX10_init) = true := am_chunk 60 4 0 (fun j hj => by
  match j, hj with
  | 0, _ => exact ocX10_init_0
  | 1, _ => exact ocX10_init_1
  | 2, _ => exact ocX10_init_2
  | 3, _ => exact ocX10_init_3
  | j + 4, h => exact absurd h (by omega)) (by decide +kernel)
theorem ocX10_isLetter : kX10_isLetter.all (am_okB qX10_isLetter) = true := by decide +kernel
theorem ocX10_isDigit : kX10_isDigit.all (am_okB qX10_isDigit) = true := by decide +kernel
theorem ocX10_rank : kX10_rank.all (am_okB qX10_rank) = true := by decide +kernel
theorem ocX10_isSignOf : kX10_isSignOf.all (am_okB qX10_isSignOf) = true := by decide +kernel
theorem ocX10_cutAll_0 : (((kX10_cutAll.drop 0)).take 60).all (am_okB qX10_cutAll) = true := by decide +kernel
theorem ocX10_cutAll_1 : (((kX10_cutAll.drop 60)).take 60).all (am_okB qX10_cutAll) = true := by decide +kernel
theorem ocX10_cutAll_2 : (((kX10_cutAll.drop 120)).take 60).all (am_okB qX10_cutAll) = true := by decide +kernel
theorem ocX10_cutAll : kX10_cutAll.all (am_okB qX10_cutAll) = true := am_chunk 60 3 0 (fun j hj => by
  match j, hj with
  | 0, _ => exact ocX10_cutAll_0
  | 1, _ => exact ocX10_cutAll_1
  | 2, _ => exact ocX10_cutAll_2
  | j + 3, h => exact absurd h (by omega)) (by decide +kernel)
theorem ocX10_wrong : kX10_wrong.all (am_okB qX10_wrong) = true := by decide +kernel
theorem ocX10_isSign : kX10_isSign.all (am_okB qX10_isSign) = true := by decide +kernel
theorem ocX10_isWord : kX10_isWord.all (am_okB qX10_isWord) = true := by decide +kernel
theorem ocX10_takeSign : kX10_takeSign.all (am_okB qX10_takeSign) = true := by decide +kernel
theorem ocX10_hasSign : kX10_hasSign.all (am_okB qX10_hasSign) = true := by decide +kernel
theorem ocX10_hasWord : kX10_hasWord.all (am_okB qX10_hasWord) = true := by decide +kernel
theorem ocX10_takeWord : kX10_takeWord.all (am_okB qX10_takeWord) = true := by decide +kernel
theorem ocX10_within : kX10_within.all (am_okB qX10_within) = true := by decide +kernel
theorem ocX10_standsAsAlways : kX10_standsAsAlways.all (am_okB qX10_standsAsAlways) = true := by decide +kernel
theorem ocX10_takeNumber : kX10_takeNumber.all (am_okB qX10_takeNumber) = true := by decide +kernel
theorem ocX10_takeAfter : kX10_takeAfter.all (am_okB qX10_takeAfter) = true := by decide +kernel
theorem ocX10_wordHere : kX10_wordHere.all (am_okB qX10_wordHere) = true := by decide +kernel
theorem ocX10_takeOne : kX10_takeOne.all (am_okB qX10_takeOne) = true := by decide +kernel
theorem ocX10_isName : kX10_isName.all (am_okB qX10_isName) = true := by decide +kernel
theorem ocX10_nameAt : kX10_nameAt.all (am_okB qX10_nameAt) = true := by decide +kernel
theorem ocX10_takeTold_0 : (((kX10_takeTold.drop 0)).take 60).all (am_okB qX10_takeTold) = true := by decide +kernel
theorem ocX10_takeTold_1 : (((kX10_takeTold.drop 60)).take 60).all (am_okB qX10_takeTold) = true := by decide +kernel
theorem ocX10_takeTold : kX10_takeTold.all (am_okB qX10_takeTold) = true := am_chunk 60 2 0 (fun j hj => by
  match j, hj with
  | 0, _ => exact ocX10_takeTold_0
  | 1, _ => exact ocX10_takeTold_1
  | j + 2, h => exact absurd h (by omega)) (by decide +kernel)
theorem ocX10_vale_0 : (((kX10_vale.drop 0)).take 60).all (am_okB qX10_vale) = true := by decide +kernel
theorem ocX10_vale_1 : (((kX10_vale.drop 60)).take 60).all (am_okB qX10_vale) = true := by decide +kernel
theorem ocX10_vale : kX10_vale.all (am_okB qX10_vale) = true := am_chunk 60 2 0 (fun j hj => by
  match j, hj with
  | 0, _ => exact ocX10_vale_0
  | 1, _ => exact ocX10_vale_1
  | j + 2, h => exact absurd h (by omega)) (by decide +kernel)
theorem ocX10_readLine_0 : (((kX10_readLine.drop 0)).take 60).all (am_okB qX10_readLine) = true := by decide +kernel
theorem ocX10_readLine_1 : (((kX10_readLine.drop 60)).take 60).all (am_okB qX10_readLine) = true := by decide +kernel
theorem ocX10_readLine : kX10_readLine.all (am_okB qX10_readLine) = true := am_chunk 60 2 0 (fun j hj => by
  match j, hj with
  | 0, _ => exact ocX10_readLine_0
  | 1, _ => exact ocX10_readLine_1
  | j + 2, h => exact absurd h (by omega)) (by decide +kernel)
theorem ocX10_readPair_0 : (((kX10_readPair.drop 0)).take 60).all (am_okB qX10_readPair) = true := by decide +kernel
theorem ocX10_readPair_1 : (((kX10_readPair.drop 60)).take 60).all (am_okB qX10_readPair) = true := by decide +kernel
theorem ocX10_readPair : kX10_readPair.all (am_okB qX10_readPair) = true := am_chunk 60 2 0 (fun j hj => by
  match j, hj with
  | 0, _ => exact ocX10_readPair_0
  | 1, _ => exact ocX10_readPair_1
  | j + 2, h => exact absurd h (by omega)) (by decide +kernel)
theorem ocX10_readName_0 : (((kX10_readName.drop 0)).take 60).all (am_okB qX10_readName) = true := by decide +kernel
theorem ocX10_readName_1 : (((kX10_readName.drop 60)).take 60).all (am_okB qX10_readName) = true := by decide +kernel
theorem ocX10_readName : kX10_readName.all (am_okB qX10_readName) = true := am_chunk 60 2 0 (fun j hj => by
  match j, hj with
  | 0, _ => exact ocX10_readName_0
  | 1, _ => exact ocX10_readName_1
  | j + 2, h => exact absurd h (by omega)) (by decide +kernel)
theorem ocX10_readDay_0 : (((kX10_readDay.drop 0)).take 60).all (am_okB qX10_readDay) = true := by decide +kernel
theorem ocX10_readDay_1 : (((kX10_readDay.drop 60)).take 60).all (am_okB qX10_readDay) = true := by decide +kernel
theorem ocX10_readDay : kX10_readDay.all (am_okB qX10_readDay) = true := am_chunk 60 2 0 (fun j hj => by
  match j, hj with
  | 0, _ => exact ocX10_readDay_0
  | 1, _ => exact ocX10_readDay_1
  | j + 2, h => exact absurd h (by omega)) (by decide +kernel)
theorem ocX10_readOnce_0 : (((kX10_readOnce.drop 0)).take 60).all (am_okB qX10_readOnce) = true := by decide +kernel
theorem ocX10_readOnce_1 : (((kX10_readOnce.drop 60)).take 60).all (am_okB qX10_readOnce) = true := by decide +kernel
theorem ocX10_readOnce : kX10_readOnce.all (am_okB qX10_readOnce) = true := am_chunk 60 2 0 (fun j hj => by
  match j, hj with
  | 0, _ => exact ocX10_readOnce_0
  | 1, _ => exact ocX10_readOnce_1
  | j + 2, h => exact absurd h (by omega)) (by decide +kernel)
theorem ocX10_year_0 : (((kX10_year.drop 0)).take 60).all (am_okB qX10_year) = true := by decide +kernel
theorem ocX10_year_1 : (((kX10_year.drop 60)).take 60).all (am_okB qX10_year) = true := by decide +kernel
theorem ocX10_year_2 : (((kX10_year.drop 120)).take 60).all (am_okB qX10_year) = true := by decide +kernel
theorem ocX10_year : kX10_year.all (am_okB qX10_year) = true := am_chunk 60 3 0 (fun j hj => by
  match j, hj with
  | 0, _ => exact ocX10_year_0
  | 1, _ => exact ocX10_year_1
  | 2, _ => exact ocX10_year_2
  | j + 3, h => exact absurd h (by omega)) (by decide +kernel)
theorem ocX10_emit : kX10_emit.all (am_okB qX10_emit) = true := by decide +kernel
theorem ocX10_whole : kX10_whole.all (am_okB qX10_whole) = true := by decide +kernel
theorem ocX10_test : kX10_test.all (am_okB qX10_test) = true := by decide +kernel
theorem ocX10_sums : kX10_sums.all (am_okB qX10_sums) = true := by decide +kernel
theorem ocX10_products : kX10_products.all (am_okB qX10_products) = true := by decide +kernel
theorem ocX10_takePart_0 : (((kX10_takePart.drop 0)).take 60).all (am_okB qX10_takePart) = true := by decide +kernel
theorem ocX10_takePart_1 : (((kX10_takePart.drop 60)).take 60).all (am_okB qX10_takePart) = true := by decide +kernel
theorem ocX10_takePart : kX10_takePart.all (am_okB qX10_takePart) = true := am_chunk 60 2 0 (fun j hj => by
  match j, hj with
  | 0, _ => exact ocX10_takePart_0
  | 1, _ => exact ocX10_takePart_1
  | j + 2, h => exact absurd h (by omega)) (by decide +kernel)
theorem ocX10_worthAt_0 : (((kX10_worthAt.drop 0)).take 60).all (am_okB qX10_worthAt) = true := by decide +kernel
theorem ocX10_worthAt_1 : (((kX10_worthAt.drop 60)).take 60).all (am_okB qX10_worthAt) = true := by decide +kernel
theorem ocX10_worthAt : kX10_worthAt.all (am_okB qX10_worthAt) = true := am_chunk 60 2 0 (fun j hj => by
  match j, hj with
  | 0, _ => exact ocX10_worthAt_0
  | 1, _ => exact ocX10_worthAt_1
  | j + 2, h => exact absurd h (by omega)) (by decide +kernel)
theorem ocX10_both : kX10_both.all (am_okB qX10_both) = true := by decide +kernel
theorem ocX10_copies : kX10_copies.all (am_okB qX10_copies) = true := by decide +kernel
theorem ocX10_starts_0 : (((kX10_starts.drop 0)).take 60).all (am_okB qX10_starts) = true := by decide +kernel
theorem ocX10_starts_1 : (((kX10_starts.drop 60)).take 60).all (am_okB qX10_starts) = true := by decide +kernel
theorem ocX10_starts : kX10_starts.all (am_okB qX10_starts) = true := am_chunk 60 2 0 (fun j hj => by
  match j, hj with
  | 0, _ => exact ocX10_starts_0
  | 1, _ => exact ocX10_starts_1
  | j + 2, h => exact absurd h (by omega)) (by decide +kernel)
theorem ocX10_datesAsTold : kX10_datesAsTold.all (am_okB qX10_datesAsTold) = true := by decide +kernel
theorem ocX10_begins : kX10_begins.all (am_okB qX10_begins) = true := by decide +kernel
theorem ocX10_keeps : kX10_keeps.all (am_okB qX10_keeps) = true := by decide +kernel
theorem ocX10_houses : kX10_houses.all (am_okB qX10_houses) = true := by decide +kernel
theorem ocX10_days : kX10_days.all (am_okB qX10_days) = true := by decide +kernel
theorem ocX10_houseOf : kX10_houseOf.all (am_okB qX10_houseOf) = true := by decide +kernel
theorem ocX10_dayOf : kX10_dayOf.all (am_okB qX10_dayOf) = true := by decide +kernel
theorem ocX10_isHouse : kX10_isHouse.all (am_okB qX10_isHouse) = true := by decide +kernel
theorem ocX10_isDay : kX10_isDay.all (am_okB qX10_isDay) = true := by decide +kernel
theorem ocX10_widthOf : kX10_widthOf.all (am_okB qX10_widthOf) = true := by decide +kernel
theorem ocX10_inHouse : kX10_inHouse.all (am_okB qX10_inHouse) = true := by decide +kernel
theorem ocX10_freeOf : kX10_freeOf.all (am_okB qX10_freeOf) = true := by decide +kernel
