/-! the law: its instructions, decided by the kernel -/
theorem ocL_law_0 : (((kL_law.drop 0)).take 60).all (am_okB qL_law) = true := by decide +kernel
theorem ocL_law_1 : (((kL_law.drop 60)).take 60).all (am_okB qL_law) = true := by decide +kernel
theorem ocL_law_2 : (((kL_law.drop 120)).take 60).all (am_okB qL_law) = true := by decide +kernel
theorem ocL_law_3 : (((kL_law.drop 180)).take 60).all (am_okB qL_law) = true := by decide +kernel
theorem ocL_law_4 : (((kL_law.drop 240)).take 60).all (am_okB qL_law) = true := by decide +kernel
theorem ocL_law_5 : (((kL_law.drop 300)).take 60).all (am_okB qL_law) = true := by decide +kernel
theorem ocL_law_6 : (((kL_law.drop 360)).take 60).all (am_okB qL_law) = true := by decide +kernel
theorem ocL_law_7 : (((kL_law.drop 420)).take 60).all (am_okB qL_law) = true := by decide +kernel
theorem ocL_law_8 : (((kL_law.drop 480)).take 60).all (am_okB qL_law) = true := by decide +kernel
theorem ocL_law_9 : (((kL_law.drop 540)).take 60).all (am_okB qL_law) = true := by decide +kernel
theorem ocL_law_10 : (((kL_law.drop 600)).take 60).all (am_okB qL_law) = true := by decide +kernel
theorem ocL_law_11 : (((kL_law.drop 660)).take 60).all (am_okB qL_law) = true := by decide +kernel
theorem ocL_law_12 : (((kL_law.drop 720)).take 60).all (am_okB qL_law) = true := by decide +kernel
theorem ocL_law : kL_law.all (am_okB qL_law) = true := am_chunk 60 13 0 (fun j hj => by
  match j, hj with
  | 0, _ => exact ocL_law_0
  | 1, _ => exact ocL_law_1
  | 2, _ => exact ocL_law_2
  | 3, _ => exact ocL_law_3
  | 4, _ => exact ocL_law_4
  | 5, _ => exact ocL_law_5
  | 6, _ => exact ocL_law_6
  | 7, _ => exact ocL_law_7
  | 8, _ => exact ocL_law_8
  | 9, _ => exact ocL_law_9
  | 10, _ => exact ocL_law_10
  | 11, _ => exact ocL_law_11
  | 12, _ => exact ocL_law_12
  | j + 13, h => exact absurd h (by omega)) (by decide +kernel)
theorem okL_law : ∀ pc i, qL_law.2.2.2.2.2.2 pc = some i → am_okI am_T qL_law pc i := am_okC ocL_law
