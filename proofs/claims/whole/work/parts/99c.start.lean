/-! ===== the start of the law: its world ===== -/
def st_T : List (String × Nat) := [("DateVale$Reader", 33), ("DateVale$Tape", 72), ("DateVale$Tape", 74), ("DateVale$Tape", 76), ("DateVale$Tape", 78), ("DateVale$Tape", 80), ("DateVale$Tape", 82), ("DateVale$Tape", 84), ("DateVale$Tape", 86), ("DateVale$Tape", 88), ("DateVale$Tape", 90), ("DateVale$Tape", 92), ("DateVale$Tape", 94), ("DateVale$Tape", 96), ("DateVale$Tape", 98), ("DateVale$Tape", 100), ("DateVale$Tape", 102), ("DateVale$Tape", 104), ("DateVale$Tape", 106), ("DateVale$Tape", 108), ("DateVale$Tape", 110), ("DateVale$Law", 75), ("DateVale$Law", 77), ("DateVale$Law", 79), ("DateVale$Law", 81)]
def st_tm (i : Nat) : Term := .string (st_T.getD i ("", 0)).1 (st_T.getD i ("", 0)).2
abbrev st_F : List Cond := flatC (Jvm.Cond.and given_1 narrow_1)
theorem st_ex : ∀ i, i < 25 → Cond.exactly (st_tm i) "java/lang/String" ∈ st_F := by decide +kernel
theorem st_co : ∀ i, i < 25 → Cond.eq (.field (st_tm i) "java/lang/String" "coder" "B") (.int 0) ∈ st_F := by decide +kernel
theorem st_ar : ∀ i, i < 25 → Cond.arrayOf (.field (st_tm i) "java/lang/String" "value" "[B") .byte ∈ st_F := by decide +kernel
theorem st_le : ∀ i, i < 25 → Cond.eq (.length (.field (st_tm i) "java/lang/String" "value" "[B")) (.int (Int32.ofNat (am_byt.getD i []).length)) ∈ st_F := by decide +kernel
theorem st_el : ∀ i, i < 25 → ∀ j, j < (am_byt.getD i []).length → Cond.eq (.elem (.field (st_tm i) "java/lang/String" "value" "[B") (.int (Int32.ofNat j))) (.int ((am_byt.getD i []).getD j 0)) ∈ st_F := by decide +kernel
theorem st_sr : ∀ q ∈ am_S, Cond.stringRef q.1 q.2.1 (am_txt q.2.2) ∈ lw_tbl := by decide +kernel
theorem st_i : ∀ q ∈ am_S, q.2.2 < 25 := by decide +kernel
theorem st_eq : ∀ q ∈ am_S, st_tm q.2.2 = .string q.1 q.2.1 ∨ Cond.eq (st_tm q.2.2) (.string q.1 q.2.1) ∈ st_F := by decide +kernel
theorem st_of {args : Array Value} {s : State} {A : Nat → Prop} (hs : ∀ c ∈ st_F, c.before args s = true) (hA : ∀ a : Nat, a < s.heap.size → ¬ A a) :
    ∃ adK adV : Nat → Nat, ∀ i : Nat, i < 25 → (st_tm i).eval args s none [] s = some (.ref (adK i)) ∧ va_O "java/lang/String" (adK i) A s s.heap ∧ va_OF "java/lang/String" "coder" "B" (.int 0) (adK i) A s s.heap ∧ va_OF "java/lang/String" "value" "[B" (.ref (adV i)) (adK i) A s s.heap ∧ va_T .byte (adV i) (am_byt.getD i []).length (fun j => .int ((am_byt.getD i []).getD j 0)) A s s.heap := by
  have h0 : ∀ i : Nat, ∃ q : Nat × Nat, i < 25 → (st_tm i).eval args s none [] s = some (.ref q.1) ∧ va_O "java/lang/String" q.1 A s s.heap ∧ va_OF "java/lang/String" "coder" "B" (.int 0) q.1 A s s.heap ∧ va_OF "java/lang/String" "value" "[B" (.ref q.2) q.1 A s s.heap ∧ va_T .byte q.2 (am_byt.getD i []).length (fun j => .int ((am_byt.getD i []).getD j 0)) A s s.heap := by
    intro i
    by_cases hi : i < 25
    · obtain ⟨a, c, cA, kA, q1, q2, q3, q4, q5, q6, -⟩ := Cond.exactly_spec (args := args) (first := s) (o := none) (s := s) (idx := []) (t := st_tm i) (cls := "java/lang/String") (hs _ (st_ex i hi))
      obtain ⟨t, ht, hT⟩ := va_Tof (f := fun j => .int ((am_byt.getD i []).getD j 0)) (A := A) (Nat.lt_of_lt_of_le (am_byt_at i).1 (by decide)) (hs _ (st_ar i hi)) (va_eqt (hs _ (st_le i hi))) (fun j hj => va_eqt (hs _ (st_el i hi j hj))) hA
      exact ⟨(a, t), fun _ => ⟨q1, ⟨cA, q3, q5, by rw [q6]; exact q2, hA a (Array.getElem?_eq_some_iff.mp q3).1⟩, vk_OFof q1 (va_eqt (hs _ (st_co i hi))) hA, vk_OFof q1 ht hA, hT⟩⟩
    · exact ⟨(0, 0), fun h => absurd h hi⟩
  obtain ⟨ad, had⟩ := Classical.axiomOfChoice h0
  exact ⟨fun i => (ad i).1, fun i => (ad i).2, fun i hi => had i hi⟩
theorem st_bad : ∀ w ∈ ax_bad, w ∈ lw_tbl := by
  have h : ax_bad = ([1076, 1078, 1080, 1082] : List Nat).filterMap (fun i => lw_tbl[i]?) := by decide +kernel
  intro w hw
  rw [h] at hw
  obtain ⟨i, -, hi⟩ := List.mem_filterMap.mp hw
  exact List.mem_of_getElem? hi
theorem am_ret2_ok {cd : Nat → Option am_I} {f : am_F} {r : Int32} (h : am_ret 2 cd f = some (some (.int r))) : ∃ z, cd f.1 = some (.ireturn, z) ∧ f.2.2 = [.int r] := by
  unfold am_ret at h
  split at h
  · rename_i g1 g2 g3
    exact absurd g2 (by decide)
  · rename_i g1 g2 g3
    exact absurd g2 (by decide)
  · rename_i g1 g2 g3
    split at h
    · cases h
      exact ⟨_, g1, g3⟩
    · cases h
  · cases h
theorem st_arr {s : State} {args : Array Value} (hts : ∀ w ∈ lw_tbl, w.before args s = true) : ∃ dA : Nat → ClassId, ∀ t, t < 6 → ArrOfT s (dA t) (am_ty t) ∧ va_RA s (dA t) (am_ty t) := by
  have h0 : ∀ t : Nat, ∃ cA : ClassId, t < 6 → ArrOfT s cA (am_ty t) ∧ va_RA s cA (am_ty t) := by
    intro t
    match t with
    | 0 =>
      obtain ⟨cA, kA, comp, h1, h2, h3⟩ := Cond.arrayClass_spec (show (Cond.arrayClass .int).holds args s none s [] = true from (hts _ (am_wn_mem (hint := 217) (by decide +kernel))))
      exact ⟨cA, fun _ => ⟨fun n z => ⟨fun k h => (by cases h), kA, h2, comp, h3⟩, h1⟩⟩
    | 1 =>
      obtain ⟨cA, kA, comp, h1, h2, h3⟩ := Cond.arrayClass_spec (show (Cond.arrayClass .long).holds args s none s [] = true from (hts _ (am_wn_mem (hint := 304) (by decide +kernel))))
      exact ⟨cA, fun _ => ⟨fun n z => ⟨fun k h => (by cases h), kA, h2, comp, h3⟩, h1⟩⟩
    | 2 =>
      obtain ⟨cA, kA, comp, h1, h2, h3⟩ := Cond.arrayClass_spec (show (Cond.arrayClass .byte).holds args s none s [] = true from (hts _ (am_wn_mem (hint := 160) (by decide +kernel))))
      exact ⟨cA, fun _ => ⟨fun n z => ⟨fun k h => (by cases h), kA, h2, comp, h3⟩, h1⟩⟩
    | 3 =>
      obtain ⟨cA, kA, comp, h1, h2, h3⟩ := Cond.arrayClass_spec (show (Cond.arrayClass .boolean).holds args s none s [] = true from (hts _ (am_wn_mem (hint := 1315) (by decide +kernel))))
      exact ⟨cA, fun _ => ⟨fun n z => ⟨fun k h => (by cases h), kA, h2, comp, h3⟩, h1⟩⟩
    | 4 =>
      obtain ⟨comp, cA, kA, h1, -, h2, h3, h4⟩ := Cond.arrayOver_spec (show (Cond.arrayOver (.object "DateVale$Stand")).holds args s none s [] = true from (hts _ (am_wn_mem (hint := 225) (by decide +kernel))))
      exact ⟨cA, fun _ => ⟨fun n z => ⟨fun k h => (by cases h), kA, h2, comp, h3⟩, kA, comp, h2, h3, h1, h4⟩⟩
    | 5 =>
      obtain ⟨comp, cA, kA, h1, -, h2, h3, h4⟩ := Cond.arrayOver_spec (show (Cond.arrayOver (.object "DateVale$Mark")).holds args s none s [] = true from (hts _ (am_wn_mem (hint := 239) (by decide +kernel))))
      exact ⟨cA, fun _ => ⟨fun n z => ⟨fun k h => (by cases h), kA, h2, comp, h3⟩, kA, comp, h2, h3, h1, h4⟩⟩
    | t + 6 => exact ⟨0, fun h => absurd h (by omega)⟩
  obtain ⟨dA, h⟩ := Classical.axiomOfChoice h0
  exact ⟨dA, h⟩
theorem st_cls {s : State} {args : Array Value} (hts : ∀ w ∈ lw_tbl, w.before args s = true) : ∃ D : va_G, ∀ (c : Nat) (q : vw_C), am_cl[c]? = some q → u_Kn s q.1 q.2.1 q.2.2 (D.1 c) (D.2 c) := by
  have htb : ∀ w ∈ am_tb, w.before args s = true := fun w hw => hts w (List.mem_filter.mp hw).1
  have h0 : ∀ c : Nat, ∃ z : ClassId × (Nat → Nat), ∀ q : vw_C, am_cl[c]? = some q → u_Kn s q.1 q.2.1 q.2.2 z.1 z.2 := by
    intro c
    by_cases hc : c < 10
    · obtain ⟨q, hq⟩ : ∃ q, am_cl[c]? = some q := ⟨_, List.getElem?_eq_getElem (show c < am_cl.length by show c < 11; omega)⟩
      have hw := am_cls_w c q hq hc
      obtain ⟨cC, iS, hk⟩ := u_known (C := q.1) (T := q.2.1) (N := q.2.2) (n := q.2.2) htb (fun w h => hw w (List.mem_cons_of_mem _ (List.mem_cons_of_mem _ h))) (htb _ (hw _ List.mem_cons_self))
      exact ⟨(cC, iS), fun q' hq' => by cases hq.symm.trans hq'; exact hk⟩
    · by_cases hc2 : c = 10
      · subst hc2
        obtain ⟨cC, iS, hk⟩ := u_known (C := RX99) (T := TX99) (N := 0) (n := 6) htb (fun w h => absurd h (by simp [u_ws])) (hts _ (am_wn_mem (hint := 1075) (by decide +kernel)))
        exact ⟨(cC, iS), fun q' hq' => by cases hq'; exact hk⟩
      · exact ⟨(0, fun _ => 0), fun q hq => absurd (List.getElem?_eq_some_iff.mp hq).1 (by show ¬ c < 11; omega)⟩
  obtain ⟨f, hf⟩ := Classical.axiomOfChoice h0
  exact ⟨(fun c => (f c).1, fun c => (f c).2), fun c q hq => hf c q hq⟩
set_option maxHeartbeats 2000000 in
/-- FROM THE ENTRY THE LAW COMES TO ITS END WITH TRUE -/
theorem whole_start {p : Program} {e : Env} {s : State} {m : MethodId} {below : List Frame} {meth : Method} {c : Code} (l : Launch) (hflags : l.flags = flags0) {b L : Nat} {xs : Nat → Int32} (hL : L ≤ 3584) (C0 : lw_At p s m meth c b L xs) : W p l e room_1 s m #[Value.ref b] below meth c s.heap [] 0 0 (lw_Z below #[Value.ref b] s) (entryFrame m ([Value.ref b] : List Value).toArray 7) := by
  obtain ⟨hx, hb, hr, hml, hown, hts, hX, hbl, hlocks, hgv⟩ := C0
  have hl : l.stackTraces = false := by
    unfold Launch.stackTraces
    rw [hflags]
    decide
  have hs := flat_of_before _ hgv
  have hA : ∀ a : Nat, a < s.heap.size → ¬ am_A s.heap.size a := fun a h => Nat.not_le.mpr h
  obtain ⟨D, hKc⟩ := st_cls hts
  obtain ⟨dA, hKa⟩ := st_arr hts
  obtain ⟨adK, adV, hst⟩ := st_of (A := am_A s.heap.size) hs hA
  obtain ⟨ad, had1, had2, had3⟩ : ∃ ad : Nat → Nat, (∀ i, i < am_SB → ad i = s.heap.size + i) ∧ (∀ i, i < 25 → ad (am_SB + i) = adK i) ∧ ad am_SC = b := by
    refine ⟨fun i => if i < am_SB then s.heap.size + i else if i < am_SB + 25 then adK (i - am_SB) else b, fun i hi => if_pos hi, fun i hi => ?_, ?_⟩
    · show (if am_SB + i < am_SB then _ else if am_SB + i < am_SB + 25 then adK (am_SB + i - am_SB) else b) = adK i
      rw [if_neg (by omega), if_pos (by omega), Nat.add_sub_cancel_left]
    · show (if am_SC < am_SB then _ else if am_SC < am_SB + 25 then _ else b) = b
      rw [if_neg (by decide), if_neg (by decide)]
  have hK : va_K D am_cl (am_tys dA) s := by
    refine ⟨hKc, fun k q hq => ?_⟩
    by_cases hk : k < 6
    · rw [am_tys_at dA k hk] at hq
      cases hq
      exact hKa k hk
    · exact absurd (List.getElem?_eq_some_iff.mp hq).1 (by show ¬ k < 6; exact hk)
  have hEx : am_Ex ad s.heap.size (L, xs) s s.heap := by
    refine ⟨fun w hw hn => va_Nw.of (am_isN_tab hn) (hts w hw), ⟨va_AO.of (hts _ (am_wn_mem (hint := 225) (by decide +kernel))), va_AO.of (hts _ (am_wn_mem (hint := 239) (by decide +kernel)))⟩, fun q hq => ?_, ⟨⟨?_, adV, fun i hi => ?_⟩, ?_, ?_, ?_, fun w hw => va_Nw.of (ax_bad_tab hw) (hts w (st_bad w hw)), ?_, ?_⟩, by rw [had3]; exact hX, by rw [had3]; exact hbl, Nat.le_refl _⟩
    · have hi := st_i q hq
      rw [had2 _ hi]
      refine vk_R.of (hts _ (st_sr q hq)) ?_
      rcases st_eq q hq with h | h
      · rw [← h]
        exact (hst _ hi).1
      · obtain ⟨w, h1, h2⟩ := Cond.eq_one (show (Cond.eq (st_tm q.2.2) (.string q.1 q.2.1)).holds #[Value.ref b] s none s [] = true from hs _ h)
        exact h2.trans (h1.symm.trans (hst _ hi).1)
    · exact va_Zof (hts _ (am_wn_mem (hint := 516) (by decide +kernel))) (hts _ (am_wn_mem (hint := 102) (by decide +kernel))) (va_eqt (hs _ (by decide +kernel))) hA
    · rw [had2 i hi]
      exact (hst i hi).2
    · exact va_Zqof (hts _ (am_wn_mem (hint := 532) (by decide +kernel))) (hts _ (am_wn_mem (hint := 104) (by decide +kernel))) (hs _ (by decide +kernel)) hA
    · exact vx_Zqof (hts _ (am_wn_mem (hint := 1101) (by decide +kernel))) (hts _ (am_wn_mem (hint := 109) (by decide +kernel))) (hs _ (by decide +kernel)) hA
    · exact vx_Zqof (hts _ (am_wn_mem (hint := 1103) (by decide +kernel))) (hts _ (am_wn_mem (hint := 109) (by decide +kernel))) (hs _ (by decide +kernel)) hA
    · obtain ⟨a, -, -, -, q1, -⟩ := Cond.exactly_spec (args := #[Value.ref b]) (first := s) (o := none) (s := s) (idx := []) (t := .string "DateVale" 296) (cls := "java/lang/String") (hs _ (by decide +kernel))
      exact ⟨a, vk_R.of (hts _ (am_wn_mem (hint := 1113) (by decide +kernel))) q1⟩
    · obtain ⟨a, -, -, -, q1, -⟩ := Cond.exactly_spec (args := #[Value.ref b]) (first := s) (o := none) (s := s) (idx := []) (t := .string "DateVale" 305) (cls := "java/lang/String") (hs _ (by decide +kernel))
      exact ⟨a, vk_R.of (hts _ (am_wn_mem (hint := 1142) (by decide +kernel))) q1⟩
  have X : am_Ctx p s m #[Value.ref b] meth c qL_law.2.1 7 qL_law.1.cls (qL_law.2.2.2.2.1 == 2) room_1 D dA ad s.heap.size (L, xs) :=
    ⟨hx, hb, hml, hown, fun w hw => hts w (List.mem_filter.mp hw).1, hK, had1, hEx, fun z => absurd z (by decide), by show 1 ≤ 2048; decide, by show 64 ≤ 84000; decide⟩
  have hW : am_Wd D dA ad s.heap.size [] s.heap := ⟨fun k q h => by simp [am_ws] at h, rfl, Nat.zero_le _⟩
  obtain ⟨n, f, h', hrun, hret, hc1, hc2⟩ := law_run (sc := (L, xs)) hL
  have hsp : am_Sp l am_T am_N := @am_Sp_ok l am_okT_all hl
  have hent := am_entry ad [Value.ref 2000000] (n := 7) (Nat.le_of_ble_eq_true rfl)
  have hcv : [Value.ref 2000000].map (am_cv ad) = [Value.ref b] := by
    show [Value.ref (ad am_SC)] = _
    rw [had3]
  rw [hcv] at hent
  rw [lg_entry_eq]
  refine am_rch_snd (T := am_T) (N := am_N) (d := 76) (q := qL_law) am_okT_all am_N_le hsp (am_sound am_okT_all am_N_le hsp D dA ad s.heap.size 76) okL_law X (by show 77 ≤ 2048; decide) (by show 64 * 77 ≤ 84000; decide) n (0, [some (.ref 2000000), none, none, none, none, none, none], []) f [] h' s.heap [] 0 0 _ hrun hent hW va_S.rf rfl (by show 0 + (h'.length - 0) ≤ 601024; omega) (by show 0 + (am_sl h' - 0) ≤ 7293034; omega) ?_
  intro H1 locs1 lsB k1 k2 k3
  obtain ⟨z, g1, g3⟩ := am_ret2_ok hret
  obtain ⟨o1, o2, -⟩ := okL_law _ _ g1
  have hl1 := o2 rfl
  simp only [am_ln] at hl1
  rw [hl1] at o1
  rw [g3]
  exact va_forget k3.2.2 (W.widen (k := 601024) (n := 7293034) (by show 0 + (h'.length - 0) ≤ 601024; omega) (by show 0 + (am_sl h' - 0) ≤ 7293034; omega) (lw_ret hx hb hr hlocks o1))
