/-! the instructions are those of the bytes, their links those of the tables: decided by the kernel -/
theorem ocX0_init : kX0_init.all (am_okB qX0_init) = true := by decide +kernel
theorem ocX0_keep : kX0_keep.all (am_okB qX0_keep) = true := by decide +kernel
theorem ocX0_bringBack : kX0_bringBack.all (am_okB qX0_bringBack) = true := by decide +kernel
theorem ocX1_init : kX1_init.all (am_okB qX1_init) = true := by decide +kernel
theorem ocX1_add : kX1_add.all (am_okB qX1_add) = true := by decide +kernel
theorem ocX1_readLevel : kX1_readLevel.all (am_okB qX1_readLevel) = true := by decide +kernel
theorem ocX1_operatorOf : kX1_operatorOf.all (am_okB qX1_operatorOf) = true := by decide +kernel
theorem ocX1_readPart_0 : (((kX1_readPart.drop 0)).take 60).all (am_okB qX1_readPart) = true := by decide +kernel
theorem ocX1_readPart_1 : (((kX1_readPart.drop 60)).take 60).all (am_okB qX1_readPart) = true := by decide +kernel
theorem ocX1_readPart : kX1_readPart.all (am_okB qX1_readPart) = true := am_chunk 60 2 0 (fun j hj => by
  match j, hj with
  | 0, _ => exact ocX1_readPart_0
  | 1, _ => exact ocX1_readPart_1
  | j + 2, h => exact absurd h (by omega)) (by decide +kernel)
theorem ocX1_factOf : kX1_factOf.all (am_okB qX1_factOf) = true := by decide +kernel
theorem ocX1_value_0 : (((kX1_value.drop 0)).take 60).all (am_okB qX1_value) = true := by decide +kernel
theorem ocX1_value_1 : (((kX1_value.drop 60)).take 60).all (am_okB qX1_value) = true := by decide +kernel
theorem ocX1_value : kX1_value.all (am_okB qX1_value) = true := am_chunk 60 2 0 (fun j hj => by
  match j, hj with
  | 0, _ => exact ocX1_value_0
  | 1, _ => exact ocX1_value_1
  | j + 2, h => exact absurd h (by omega)) (by decide +kernel)
theorem ocX1_joined : kX1_joined.all (am_okB qX1_joined) = true := by decide +kernel
theorem ocX2_init : kX2_init.all (am_okB qX2_init) = true := by decide +kernel
theorem ocX2_lay : kX2_lay.all (am_okB qX2_lay) = true := by decide +kernel
theorem ocX3_init : kX3_init.all (am_okB qX3_init) = true := by decide +kernel
theorem ocX3_add : kX3_add.all (am_okB qX3_add) = true := by decide +kernel
theorem ocX3_carryOut_0 : (((kX3_carryOut.drop 0)).take 60).all (am_okB qX3_carryOut) = true := by decide +kernel
theorem ocX3_carryOut_1 : (((kX3_carryOut.drop 60)).take 60).all (am_okB qX3_carryOut) = true := by decide +kernel
theorem ocX3_carryOut : kX3_carryOut.all (am_okB qX3_carryOut) = true := am_chunk 60 2 0 (fun j hj => by
  match j, hj with
  | 0, _ => exact ocX3_carryOut_0
  | 1, _ => exact ocX3_carryOut_1
  | j + 2, h => exact absurd h (by omega)) (by decide +kernel)
theorem ocX4_readVale : kX4_readVale.all (am_okB qX4_readVale) = true := by decide +kernel
theorem ocX4_readValeLine : kX4_readValeLine.all (am_okB qX4_readValeLine) = true := by decide +kernel
theorem ocX4_readHouse : kX4_readHouse.all (am_okB qX4_readHouse) = true := by decide +kernel
theorem ocX4_readLends : kX4_readLends.all (am_okB qX4_readLends) = true := by decide +kernel
theorem ocX4_readDay_0 : (((kX4_readDay.drop 0)).take 60).all (am_okB qX4_readDay) = true := by decide +kernel
theorem ocX4_readDay_1 : (((kX4_readDay.drop 60)).take 60).all (am_okB qX4_readDay) = true := by decide +kernel
theorem ocX4_readDay : kX4_readDay.all (am_okB qX4_readDay) = true := am_chunk 60 2 0 (fun j hj => by
  match j, hj with
  | 0, _ => exact ocX4_readDay_0
  | 1, _ => exact ocX4_readDay_1
  | j + 2, h => exact absurd h (by omega)) (by decide +kernel)
theorem ocX4_readClash : kX4_readClash.all (am_okB qX4_readClash) = true := by decide +kernel
theorem ocX4_readStays : kX4_readStays.all (am_okB qX4_readStays) = true := by decide +kernel
theorem ocX4_readFades : kX4_readFades.all (am_okB qX4_readFades) = true := by decide +kernel
theorem ocX4_readPlan : kX4_readPlan.all (am_okB qX4_readPlan) = true := by decide +kernel
theorem ocX4_readPlanLine_0 : (((kX4_readPlanLine.drop 0)).take 60).all (am_okB qX4_readPlanLine) = true := by decide +kernel
theorem ocX4_readPlanLine_1 : (((kX4_readPlanLine.drop 60)).take 60).all (am_okB qX4_readPlanLine) = true := by decide +kernel
theorem ocX4_readPlanLine : kX4_readPlanLine.all (am_okB qX4_readPlanLine) = true := am_chunk 60 2 0 (fun j hj => by
  match j, hj with
  | 0, _ => exact ocX4_readPlanLine_0
  | 1, _ => exact ocX4_readPlanLine_1
  | j + 2, h => exact absurd h (by omega)) (by decide +kernel)
theorem ocX4_lineAct : kX4_lineAct.all (am_okB qX4_lineAct) = true := by decide +kernel
theorem ocX4_passNewName : kX4_passNewName.all (am_okB qX4_passNewName) = true := by decide +kernel
theorem ocX4_passKind : kX4_passKind.all (am_okB qX4_passKind) = true := by decide +kernel
theorem ocX4_passHouse : kX4_passHouse.all (am_okB qX4_passHouse) = true := by decide +kernel
theorem ocX4_passDay : kX4_passDay.all (am_okB qX4_passDay) = true := by decide +kernel
theorem ocX4_passTold : kX4_passTold.all (am_okB qX4_passTold) = true := by decide +kernel
theorem ocX5_init : kX5_init.all (am_okB qX5_init) = true := by decide +kernel
theorem ocX5_add : kX5_add.all (am_okB qX5_add) = true := by decide +kernel
theorem ocX5_copyFrom : kX5_copyFrom.all (am_okB qX5_copyFrom) = true := by decide +kernel
theorem ocX6_init : kX6_init.all (am_okB qX6_init) = true := by decide +kernel
theorem ocX6_begin : kX6_begin.all (am_okB qX6_begin) = true := by decide +kernel
theorem ocX6_copyFrom_0 : (((kX6_copyFrom.drop 0)).take 60).all (am_okB qX6_copyFrom) = true := by decide +kernel
theorem ocX6_copyFrom_1 : (((kX6_copyFrom.drop 60)).take 60).all (am_okB qX6_copyFrom) = true := by decide +kernel
theorem ocX6_copyFrom : kX6_copyFrom.all (am_okB qX6_copyFrom) = true := am_chunk 60 2 0 (fun j hj => by
  match j, hj with
  | 0, _ => exact ocX6_copyFrom_0
  | 1, _ => exact ocX6_copyFrom_1
  | j + 2, h => exact absurd h (by omega)) (by decide +kernel)
theorem ocX6_passDate : kX6_passDate.all (am_okB qX6_passDate) = true := by decide +kernel
theorem ocX6_stayLonger : kX6_stayLonger.all (am_okB qX6_stayLonger) = true := by decide +kernel
theorem ocX6_leave : kX6_leave.all (am_okB qX6_leave) = true := by decide +kernel
theorem ocX6_flood : kX6_flood.all (am_okB qX6_flood) = true := by decide +kernel
theorem ocX6_isDue : kX6_isDue.all (am_okB qX6_isDue) = true := by decide +kernel
theorem ocX6_receive_0 : (((kX6_receive.drop 0)).take 60).all (am_okB qX6_receive) = true := by decide +kernel
theorem ocX6_receive_1 : (((kX6_receive.drop 60)).take 60).all (am_okB qX6_receive) = true := by decide +kernel
theorem ocX6_receive : kX6_receive.all (am_okB qX6_receive) = true := am_chunk 60 2 0 (fun j hj => by
  match j, hj with
  | 0, _ => exact ocX6_receive_0
  | 1, _ => exact ocX6_receive_1
  | j + 2, h => exact absurd h (by omega)) (by decide +kernel)
theorem ocX6_hostOf : kX6_hostOf.all (am_okB qX6_hostOf) = true := by decide +kernel
theorem ocX6_holds : kX6_holds.all (am_okB qX6_holds) = true := by decide +kernel
theorem ocX6_canShift : kX6_canShift.all (am_okB qX6_canShift) = true := by decide +kernel
theorem ocX6_shift : kX6_shift.all (am_okB qX6_shift) = true := by decide +kernel
theorem ocX6_freeBeds : kX6_freeBeds.all (am_okB qX6_freeBeds) = true := by decide +kernel
theorem ocX6_guests : kX6_guests.all (am_okB qX6_guests) = true := by decide +kernel
theorem ocX6_somewhere : kX6_somewhere.all (am_okB qX6_somewhere) = true := by decide +kernel
theorem ocX6_talk : kX6_talk.all (am_okB qX6_talk) = true := by decide +kernel
theorem ocX6_talkOfAll : kX6_talkOfAll.all (am_okB qX6_talkOfAll) = true := by decide +kernel
theorem ocX6_bedsOfAll : kX6_bedsOfAll.all (am_okB qX6_bedsOfAll) = true := by decide +kernel
theorem ocX6_faded : kX6_faded.all (am_okB qX6_faded) = true := by decide +kernel
theorem ocX7_init : kX7_init.all (am_okB qX7_init) = true := by decide +kernel
theorem ocX7_add : kX7_add.all (am_okB qX7_add) = true := by decide +kernel
theorem ocX7_begin : kX7_begin.all (am_okB qX7_begin) = true := by decide +kernel
theorem ocX7_atEnd : kX7_atEnd.all (am_okB qX7_atEnd) = true := by decide +kernel
theorem ocX7_step_0 : (((kX7_step.drop 0)).take 60).all (am_okB qX7_step) = true := by decide +kernel
theorem ocX7_step_1 : (((kX7_step.drop 60)).take 60).all (am_okB qX7_step) = true := by decide +kernel
theorem ocX7_step : kX7_step.all (am_okB qX7_step) = true := am_chunk 60 2 0 (fun j hj => by
  match j, hj with
  | 0, _ => exact ocX7_step_0
  | 1, _ => exact ocX7_step_1
  | j + 2, h => exact absurd h (by omega)) (by decide +kernel)
theorem ocX7_scanWord : kX7_scanWord.all (am_okB qX7_scanWord) = true := by decide +kernel
theorem ocX7_scanNumber : kX7_scanNumber.all (am_okB qX7_scanNumber) = true := by decide +kernel
theorem ocX7_isSign : kX7_isSign.all (am_okB qX7_isSign) = true := by decide +kernel
theorem ocX7_isWord : kX7_isWord.all (am_okB qX7_isWord) = true := by decide +kernel
theorem ocX7_isSignOf : kX7_isSignOf.all (am_okB qX7_isSignOf) = true := by decide +kernel
theorem ocX7_isNumber : kX7_isNumber.all (am_okB qX7_isNumber) = true := by decide +kernel
theorem ocX7_isName_0 : (((kX7_isName.drop 0)).take 60).all (am_okB qX7_isName) = true := by decide +kernel
theorem ocX7_isName_1 : (((kX7_isName.drop 60)).take 60).all (am_okB qX7_isName) = true := by decide +kernel
theorem ocX7_isName : kX7_isName.all (am_okB qX7_isName) = true := am_chunk 60 2 0 (fun j hj => by
  match j, hj with
  | 0, _ => exact ocX7_isName_0
  | 1, _ => exact ocX7_isName_1
  | j + 2, h => exact absurd h (by omega)) (by decide +kernel)
theorem ocX7_refuse : kX7_refuse.all (am_okB qX7_refuse) = true := by decide +kernel
theorem ocX7_passWord : kX7_passWord.all (am_okB qX7_passWord) = true := by decide +kernel
theorem ocX7_passSign : kX7_passSign.all (am_okB qX7_passSign) = true := by decide +kernel
theorem ocX7_passNumber : kX7_passNumber.all (am_okB qX7_passNumber) = true := by decide +kernel
theorem ocX8_init : kX8_init.all (am_okB qX8_init) = true := by decide +kernel
theorem ocX8_clear : kX8_clear.all (am_okB qX8_clear) = true := by decide +kernel
theorem ocX8_addHouse : kX8_addHouse.all (am_okB qX8_addHouse) = true := by decide +kernel
theorem ocX8_addDay : kX8_addDay.all (am_okB qX8_addDay) = true := by decide +kernel
theorem ocX8_houseNamed : kX8_houseNamed.all (am_okB qX8_houseNamed) = true := by decide +kernel
theorem ocX8_dayNamed : kX8_dayNamed.all (am_okB qX8_dayNamed) = true := by decide +kernel
theorem ocJ6_numberOfTrailingZeros_0f7a4 : kJ6_numberOfTrailingZeros_0f7a4.all (am_okB qJ6_numberOfTrailingZeros_0f7a4) = true := by decide +kernel
theorem ocJ6_bitCount_0f7a4 : kJ6_bitCount_0f7a4.all (am_okB qJ6_bitCount_0f7a4) = true := by decide +kernel
theorem ocJ9_max_7cf53 : kJ9_max_7cf53.all (am_okB qJ9_max_7cf53) = true := by decide +kernel
theorem ocJ9_min_7cf53 : kJ9_min_7cf53.all (am_okB qJ9_min_7cf53) = true := by decide +kernel
theorem ocJ7_fill_53178 : kJ7_fill_53178.all (am_okB qJ7_fill_53178) = true := by decide +kernel
