/-! ===== PURE: words, signs, numbers in both ===== -/
section
variable {v nh nd st a b n m : Nat} {V : Nat → Nat → Nat} {S : Nat → Nat → Int32} {t0 t0' t t' : tS}
variable {c so pl bh : Nat → Nat} {L M k : Nat}
theorem enc_lt {b : Nat} : ∀ (l : List Nat) (x : Nat), (∀ y ∈ l, y < b) → enc b l x < (x + 1) * b ^ l.length := by
  intro l
  induction l with
  | nil => intro x _; show x < (x + 1) * 1; omega
  | cons y l ih =>
    intro x hl
    have h1 := ih (b * x + y) (fun z hz => hl z (List.mem_cons_of_mem _ hz))
    have h2 := hl y List.mem_cons_self
    show enc b l (b * x + y) < (x + 1) * b ^ (l.length + 1)
    have h3 : (b * x + y + 1) * b ^ l.length ≤ ((x + 1) * b) * b ^ l.length := by
      apply Nat.mul_le_mul_right
      rw [Nat.add_mul, Nat.mul_comm x b]
      omega
    rw [Nat.pow_succ, Nat.mul_comm (b ^ l.length) b, ← Nat.mul_assoc]
    omega
theorem enc_inj {b : Nat} (hb : 0 < b) : ∀ (n : Nat) (l m : List Nat), l.length ≤ n → (∀ y ∈ l, 1 ≤ y ∧ y < b) → (∀ y ∈ m, 1 ≤ y ∧ y < b) → enc b l 0 = enc b m 0 → l = m := by
  intro n
  induction n with
  | zero =>
    intro l m hn hl hm he
    have hl0 : l = [] := List.length_eq_zero_iff.1 (by omega)
    subst hl0
    rcases List.eq_nil_or_concat m with h | ⟨m', y, h⟩
    · exact h.symm
    · rw [List.concat_eq_append] at h
      subst h
      rw [enc_sn] at he
      have := (hm y (by simp)).1
      simp only [enc] at he
      omega
  | succ n ih =>
    intro l m hn hl hm he
    rcases List.eq_nil_or_concat l with h | ⟨l', x, h⟩
    · subst h
      rcases List.eq_nil_or_concat m with h | ⟨m', y, h⟩
      · exact h.symm
      · rw [List.concat_eq_append] at h
        subst h
        rw [enc_sn] at he
        have := (hm y (by simp)).1
        simp only [enc] at he
        omega
    · rw [List.concat_eq_append] at h
      subst h
      rcases List.eq_nil_or_concat m with h | ⟨m', y, h⟩
      · subst h
        rw [enc_sn] at he
        have := (hl x (by simp)).1
        simp only [enc] at he
        omega
      · rw [List.concat_eq_append] at h
        subst h
        rw [enc_sn, enc_sn] at he
        obtain ⟨x1, x2⟩ := hl x (by simp)
        obtain ⟨y1, y2⟩ := hm y (by simp)
        have e1 : x = y := by
          have := congrArg (· % b) he
          simp only [Nat.mul_add_mod] at this
          rw [Nat.mod_eq_of_lt x2, Nat.mod_eq_of_lt y2] at this
          exact this
        have e2 : enc b l' 0 = enc b m' 0 := by
          rw [e1] at he
          exact Nat.eq_of_mul_eq_mul_left hb (by omega)
        rw [e1, ih l' m' (by rw [List.length_append] at hn; simp at hn; omega) (fun z hz => hl z (by simp [hz])) (fun z hz => hm z (by simp [hz])) e2]
theorem IW.lt {w : List Nat} (h : IW w) : enc 37 w 0 < 9223372036854775808 ∧ enc 32 w 0 < 9223372036854775808 := by
  have h1 := enc_lt (b := 37) w 0 (fun y hy => by have := (h.2.2 y hy).2; omega)
  have h2 := enc_lt (b := 32) w 0 (fun y hy => by have := (h.2.2 y hy).2; omega)
  have h3 : 37 ^ w.length ≤ 37 ^ 8 := Nat.pow_le_pow_right (by decide) h.2.1
  have h4 : 32 ^ w.length ≤ 32 ^ 8 := Nat.pow_le_pow_right (by decide) h.2.1
  rw [Nat.zero_add, Nat.one_mul] at h1 h2
  have h5 : (37 : Nat) ^ 8 < 9223372036854775808 := by decide
  have h6 : (32 : Nat) ^ 8 < 9223372036854775808 := by decide
  omega
theorem IW.e37 {w u : List Nat} (h : IW w) (g : IW u) : nL (enc 37 w 0) = nL (enc 37 u 0) ↔ w = u := by
  rw [nL_eq h.lt.1 g.lt.1]
  constructor
  · exact enc_inj (by decide) w.length w u (Nat.le_refl _) (fun y hy => by have := h.2.2 y hy; omega) (fun y hy => by have := g.2.2 y hy; omega)
  · intro z
    rw [z]
theorem IW.e32 {w u : List Nat} (h : IW w) (g : IW u) : nL (enc 32 w 0) = nL (enc 32 u 0) ↔ w = u := by
  rw [nL_eq h.lt.2 g.lt.2]
  constructor
  · exact enc_inj (by decide) w.length w u (Nat.le_refl _) (fun y hy => by have := h.2.2 y hy; omega) (fun y hy => by have := g.2.2 y hy; omega)
  · intro z
    rw [z]
theorem kw_IW : ∀ i, i < 25 → IW (kw.getD i []) := by
  have : ∀ i < 25, 1 ≤ (kw.getD i []).length ∧ (kw.getD i []).length ≤ 8 ∧ ∀ x ∈ kw.getD i [], 1 ≤ x ∧ x ≤ 26 := by decide
  exact this
theorem kw_nd : ∀ i < 25, ∀ j < 25, kw.getD i [] = kw.getD j [] → i = j := by decide
theorem kw_s : ∀ i < 25, am_sLen (1000000 + i) = some (nI (kw.getD i []).length) := by decide
theorem kw_c : ∀ i < 25, ∀ j < 8, j < (kw.getD i []).length → am_sCh (1000000 + i) (nI j) = some (nI ((kw.getD i []).getD j 0 + 96)) := by decide
theorem list_e {l m : List Nat} (h : l.length = m.length) : l = m ↔ ∀ j, j < m.length → l.getD j 0 = m.getD j 0 := by
  constructor
  · intro z j _
    rw [z]
  · intro z
    apply List.ext_getElem h
    intro j h1 h2
    have := z j h2
    rw [List.getD_eq_getElem?_getD, List.getD_eq_getElem?_getD, List.getElem?_eq_getElem h1, List.getElem?_eq_getElem h2] at this
    exact this
/-- the word at a token -/
def tw (c pl bh : Nat → Nat) (k : Nat) : List Nat := wl c (pl k) (bh (k + 1) - pl k)
def isw (c so pl bh : Nat → Nat) (k i : Nat) : Bool := decide (so k = 1) && decide (tw c pl bh k = kw.getD i [])
def iss (c so pl : Nat → Nat) (k x : Nat) : Bool := decide (so k = 3) && decide (c (pl k) = x)
/-- class and reference at the same token, without a fault -/
def PC (c : Nat → Nat) (L M : Nat) (so pl bh : Nat → Nat) (k : Nat) (t t' : tS) : Prop := k ≤ M ∧ AT c L so pl bh k t ∧ RT c M so pl bh t' ∧ WD t' ∧ t'.1 218 7 = nI k ∧ t'.1 218 8 = nI 0
theorem TK.w (hT : TK c L M so pl bh) (hk : k ≤ M) (hs : so k = 1) : k < M ∧ pl k < L ∧ bh (k + 1) ≤ L ∧ pl k < bh (k + 1) ∧ bh (k + 1) - pl k ≤ 8 ∧ (∀ i, pl k ≤ i → i < bh (k + 1) → Lt (c i)) ∧ IW (tw c pl bh k) := by
  obtain ⟨k1, k2, k3, k4, k5, k6, k7, k8, k9, k10⟩ := hT
  have hkM : k < M := by
    by_cases z : k = M
    · rw [z, k6] at hs; cases hs
    · omega
  obtain ⟨q1, q2, q3, q4, q5, q6, q7⟩ := k10 k hkM
  rcases q7 with ⟨g1, g2⟩ | ⟨g1, g2⟩ | ⟨g1, g2, g3, g4, g5⟩
  · have h8 : bh (k + 1) - pl k ≤ 8 := by
      by_cases z : bh (k + 1) - pl k ≤ 8
      · exact z
      · rw [if_neg z, hs] at g2; cases g2
    refine ⟨hkM, q3, q6, q5, h8, g1.2.2.1, ?_, ?_, ?_⟩
    · unfold tw; rw [wl_len]; omega
    · unfold tw; rw [wl_len]; exact h8
    · intro x hx
      unfold tw at hx
      have key : ∀ n, n ≤ bh (k + 1) - pl k → ∀ x ∈ wl c (pl k) n, 1 ≤ x ∧ x ≤ 26 := by
        intro n
        induction n with
        | zero => intro _ x hx; cases hx
        | succ n ih =>
          intro hn x hx
          rw [wl, List.mem_append] at hx
          rcases hx with hx | hx
          · exact ih (by omega) x hx
          · rw [List.mem_singleton] at hx
            have := g1.2.2.1 (pl k + n) (by omega) (by omega)
            omega
      exact key _ (Nat.le_refl _) x hx
  · rw [hs] at g2
    split at g2 <;> cases g2
  · rw [hs] at g5
    split at g5 <;> cases g5
theorem TK.mlt (hT : TK c L M so pl bh) (hk : k ≤ M) (hs : so k ≠ 0) : k < M := by
  by_cases z : k = M
  · rw [z, hT.2.2.2.2.2.1] at hs; exact absurd rfl hs
  · omega
theorem TK.plb (hT : TK c L M so pl bh) (hk : k ≤ M) : pl k ≤ 1000 := by
  obtain ⟨k1, k2, k3, k4, k5, k6, k7, k8, k9, k10⟩ := hT
  by_cases z : k = M
  · rw [z, k7]; exact k1
  · have := k10 k (by omega); omega
theorem TK.sob (hT : TK c L M so pl bh) (hk : k ≤ M) : so k ≤ 4 := by
  obtain ⟨k1, k2, k3, k4, k5, k6, k7, k8, k9, k10⟩ := hT
  by_cases z : k = M
  · rw [z, k6]; omega
  · obtain ⟨_, _, _, _, _, _, q7⟩ := k10 k (by omega)
    rcases q7 with ⟨g1, g2⟩ | ⟨g1, g2⟩ | ⟨g1, g2, g3, g4, g5⟩
    · rw [g2]; split <;> omega
    · rw [g2]; split <;> omega
    · rw [g5]; split <;> omega
theorem PC.cw (h : PC c L M so pl bh k t t') (hT : TK c L M so pl bh) {i : Nat} (hi : i < 25) : tX7_isWord (1000000 + i) t = some (bI (isw c so pl bh k i)) := by
  have so4 := hT.sob h.1
  obtain ⟨hk, ⟨⟨a1, a2⟩, a3, a4, a5, a6, a7⟩, _⟩ := h
  unfold tX7_isWord isw
  rw [a5]
  by_cases hs : so k = 1
  · obtain ⟨w1, w2, w3, w4, w5, w6, w7⟩ := hT.w hk hs
    have hL := hT.1
    have iw := (kw_IW i hi).2.1
    rw [if_neg (by rw [nN_eql (by omega) (by decide)]; simp [hs]), kw_s i hi, ob_s, a4, a3, nN_su (by omega), decide_eq_true hs, Bool.true_and]
    by_cases hl : (kw.getD i []).length = bh (k + 1) - pl k
    · rw [if_pos (by rw [nN_eq (by omega) (by omega)]; exact hl)]
      have hlen : (tw c pl bh k).length = (kw.getD i []).length := by unfold tw; rw [wl_len, hl]
      have loop : ∀ (r j f : Nat), j + r = (kw.getD i []).length → r < f → (tX7_isWord_L28 f (1000000 + i) (nI j) t = some (.inl ()) ∧ ∀ x, j ≤ x → x < (kw.getD i []).length → c (pl k + x) = (kw.getD i []).getD x 0 + 96) ∨ (tX7_isWord_L28 f (1000000 + i) (nI j) t = some (.inr 0) ∧ ∃ x, x < (kw.getD i []).length ∧ ¬ c (pl k + x) = (kw.getD i []).getD x 0 + 96) := by
        intro r
        induction r with
        | zero =>
          intro j f hj hf
          obtain ⟨f, rfl⟩ : ∃ g, f = g + 1 := ⟨f - 1, by omega⟩
          rw [tX7_isWord_L28, kw_s i hi, ob_s, if_pos ((nN_le (by omega) (by omega)).2 (by omega))]
          exact .inl ⟨rfl, fun x _ _ => by omega⟩
        | succ r ih =>
          intro j f hj hf
          obtain ⟨f, rfl⟩ : ∃ g, f = g + 1 := ⟨f - 1, by omega⟩
          have lt := w6 (pl k + j) (by omega) (by omega)
          have lx : (kw.getD i []).getD j 0 ≤ 26 := by
            have : ∀ i < 25, ∀ j < 8, (kw.getD i []).getD j 0 ≤ 26 := by decide
            exact this i hi j (by omega)
          rw [tX7_isWord_L28, kw_s i hi, ob_s, if_neg (by rw [nN_le (by omega) (by omega)]; omega), a3, nN_ad, tA_e (by omega) (by omega), a2 _ (by omega), ob_s, kw_c i hi j (by omega) (by omega), ob_s, nN_al]
          by_cases e : c (pl k + j) = (kw.getD i []).getD j 0 + 96
          · rw [if_pos (by rw [e])]
            rcases ih (j + 1) f (by omega) (by omega) with ⟨b1, b2⟩ | b
            · refine .inl ⟨b1, fun x h1 h2 => ?_⟩
              by_cases z : x = j
              · rw [z]; exact e
              · exact b2 x (by omega) h2
            · exact .inr b
          · rw [if_neg (by rw [nN_eq (by omega) (by omega)]; exact e)]
            exact .inr ⟨rfl, j, by omega, e⟩
      rcases loop _ 0 4000 (Nat.zero_add _) (by omega) with ⟨b1, b2⟩ | ⟨b1, x, b2, b3⟩
      · have b1' : tX7_isWord_L28 4000 (1000000 + i) 0 t = some (.inl ()) := b1
        have e : tw c pl bh k = kw.getD i [] := by
          rw [list_e hlen]
          intro j hj
          unfold tw
          rw [wl_get _ _ (by omega), b2 j (by omega) hj]
          omega
        rw [b1', ob_s, decide_eq_true e]
        rfl
      · have b1' : tX7_isWord_L28 4000 (1000000 + i) 0 t = some (.inr 0) := b1
        have e : ¬ tw c pl bh k = kw.getD i [] := by
          intro z
          have := (list_e hlen).1 z x b2
          unfold tw at this
          rw [wl_get _ _ (by omega)] at this
          have lt := w6 (pl k + x) (by omega) (by omega)
          omega
        rw [b1', ob_s, decide_eq_false e]
        rfl
    · rw [if_neg (by rw [nN_eq (by omega) (by omega)]; exact hl)]
      have e : ¬ tw c pl bh k = kw.getD i [] := by
        intro z
        apply hl
        rw [← z]
        unfold tw
        rw [wl_len]
      rw [decide_eq_false e]
      rfl
  · rw [if_pos (by rw [nN_eql (by omega) (by decide)]; exact hs), decide_eq_false hs]
    rfl
theorem PC.mw (h : PC c L M so pl bh k t t') (hT : TK c L M so pl bh) {i : Nat} (hi : i < 25) : tX10_isWord (nI i) t' = some (bI (isw c so pl bh k i)) := by
  have so4 := hT.sob h.1
  obtain ⟨hk, _, r, wd, m7, m8⟩ := h
  obtain ⟨r1, r2, r3, _⟩ := r k hk
  have hM := hT.2.2.1
  have hL := hT.1
  unfold tX10_isWord isw
  rw [m8, if_neg (by decide), m7, tA_e (by omega) (by omega), ob_s, r1]
  by_cases hs : so k = 1
  · rw [if_neg (by rw [nN_eql (by omega) (by decide)]; simp [hs]), tB_e (by omega) (by omega), ob_s, tB_e (by omega) (by omega), ob_s, r3 hs, wd i hi, decide_eq_true hs, Bool.true_and]
    have e := (IW.e37 (hT.w hk hs).2.2.2.2.2.2 (kw_IW i hi))
    by_cases z : tw c pl bh k = kw.getD i []
    · rw [if_neg (fun q => q ((lg_cmp_eq _ _).2 (e.2 z))), decide_eq_true z]
      rfl
    · have e2 : ¬ lg_cmp (nL (enc 37 (wl c (pl k) (bh (k + 1) - pl k)) 0)) (Int64.ofNat (enc 37 (kw.getD i []) 0)) = 0 := fun q => z (e.1 ((lg_cmp_eq _ _).1 q))
      rw [if_pos e2, decide_eq_false z]
      rfl
  · rw [if_pos (by rw [nN_eql (by omega) (by decide)]; exact hs), decide_eq_false hs]
    rfl
theorem TK.s3 (hT : TK c L M so pl bh) (hk : k ≤ M) (hs : so k = 3) : k < M ∧ pl k < L ∧ c (pl k) < 127 := by
  have hkM := hT.mlt hk (by omega)
  obtain ⟨k1, k2, k3, k4, k5, k6, k7, k8, k9, k10⟩ := hT
  have := (k10 k hkM).2.2.1
  have := k2 (pl k) this
  exact ⟨hkM, by omega, by omega⟩
theorem PC.cs (h : PC c L M so pl bh k t t') (hT : TK c L M so pl bh) {x : Nat} (hx : x < 127) : tX7_isSignOf (nI x) t = some (bI (iss c so pl k x)) := by
  have so4 := hT.sob h.1
  obtain ⟨hk, ⟨⟨a1, a2⟩, a3, a4, a5, a6, a7⟩, _⟩ := h
  have hL := hT.1
  unfold tX7_isSignOf iss
  rw [a5]
  by_cases hs : so k = 3
  · obtain ⟨s1, s2, s3⟩ := hT.s3 hk hs
    rw [if_neg (by rw [nN_eql (by omega) (by decide)]; simp [hs]), a3, tA_e (by omega) (by omega), ob_s, a2 _ s2, decide_eq_true hs, Bool.true_and]
    by_cases z : c (pl k) = x
    · rw [if_neg (by rw [nN_eq (by omega) (by omega)]; simp [z]), decide_eq_true z]
      rfl
    · rw [if_pos (by rw [nN_eq (by omega) (by omega)]; exact z), decide_eq_false z]
      rfl
  · rw [if_pos (by rw [nN_eql (by omega) (by decide)]; exact hs), decide_eq_false hs]
    rfl
theorem PC.ms (h : PC c L M so pl bh k t t') (hT : TK c L M so pl bh) {x : Nat} (hx : x < 127) : tX10_isSign (nI x) t' = some (bI (iss c so pl k x)) := by
  have so4 := hT.sob h.1
  obtain ⟨hk, _, r, wd, m7, m8⟩ := h
  obtain ⟨r1, r2, r3, r4, r5⟩ := r k hk
  have hM := hT.2.2.1
  have hL := hT.1
  unfold tX10_isSign iss
  rw [m8, if_neg (by decide), m7, tA_e (by omega) (by omega), ob_s, r1]
  by_cases hs : so k = 3
  · obtain ⟨s1, s2, s3⟩ := hT.s3 hk hs
    rw [if_neg (by rw [nN_eql (by omega) (by decide)]; simp [hs]), tB_e (by omega) (by omega), ob_s, r5 hs, nI_64 (by omega), decide_eq_true hs, Bool.true_and]
    by_cases z : c (pl k) = x
    · rw [if_neg (fun q => q ((lg_cmp_eq _ _).2 (by rw [z]))), decide_eq_true z]
      rfl
    · rw [if_pos (fun q => z ((nL_eq (by omega) (by omega)).1 ((lg_cmp_eq _ _).1 q))), decide_eq_false z]
      rfl
  · rw [if_pos (by rw [nN_eql (by omega) (by decide)]; exact hs), decide_eq_false hs]
    rfl
theorem PC.cn (h : PC c L M so pl bh k t t') (hT : TK c L M so pl bh) : tX7_isNumber t = some (bI (decide (so k = 2))) := by
  have so4 := hT.sob h.1
  unfold tX7_isNumber
  rw [h.2.1.2.2.2.1]
  by_cases hs : so k = 2
  · rw [if_neg (by rw [nN_eql (by omega) (by decide)]; simp [hs]), decide_eq_true hs]
    rfl
  · rw [if_pos (by rw [nN_eql (by omega) (by decide)]; exact hs), decide_eq_false hs]
    rfl
theorem PC.ce (h : PC c L M so pl bh k t t') (hT : TK c L M so pl bh) : tX7_atEnd t = some (bI (decide (so k = 0))) := by
  have so4 := hT.sob h.1
  unfold tX7_atEnd
  rw [h.2.1.2.2.2.1]
  by_cases hs : so k = 0
  · rw [if_neg (by rw [show (0 : Int32) = nI 0 from rfl, nN_eq (by omega) (by decide)]; simp [hs]), decide_eq_true hs]
    rfl
  · rw [if_pos (by rw [show (0 : Int32) = nI 0 from rfl, nN_eq (by omega) (by decide)]; exact hs), decide_eq_false hs]
    rfl
/-- which of some kept words -/
theorem PC.whL (h : PC c L M so pl bh k t t') (hT : TK c L M so pl bh) {f m : Nat} (hm : f + m ≤ 25) : ∀ (r i F : Nat) (x : Int32), i + r = m → r < F → ((x = -1 ∧ ∀ j, j < i → isw c so pl bh k (f + j) = false) ∨ (∃ j, j < i ∧ x = nI j ∧ isw c so pl bh k (f + j) = true)) → ∃ y, tX10_wordHere_L5 F (nI f) (nI m) x (nI i) t' = some y ∧ ((y = -1 ∧ ∀ j, j < m → isw c so pl bh k (f + j) = false) ∨ (∃ j, j < m ∧ y = nI j ∧ isw c so pl bh k (f + j) = true)) := by
  intro r
  induction r with
  | zero =>
    intro i F x hi hF hx
    obtain ⟨F, rfl⟩ : ∃ g, F = g + 1 := ⟨F - 1, by omega⟩
    obtain rfl : i = m := by omega
    rw [tX10_wordHere_L5, if_pos (Int32.le_refl _)]
    exact ⟨x, rfl, hx⟩
  | succ r ih =>
    intro i F x hi hF hx
    obtain ⟨F, rfl⟩ : ∃ g, F = g + 1 := ⟨F - 1, by omega⟩
    rw [tX10_wordHere_L5, if_neg (by rw [nN_le (by omega) (by omega)]; omega), nN_ad, h.mw hT (by omega), ob_s, nN_al]
    cases hb : isw c so pl bh k (f + i)
    · rw [if_pos (by decide), ob_s]
      apply ih (i + 1) F x (by omega) (by omega)
      rcases hx with ⟨h1, h2⟩ | ⟨j, h1, h2⟩
      · refine .inl ⟨h1, fun j hj => ?_⟩
        by_cases z : j = i
        · rw [z]; exact hb
        · exact h2 j (by omega)
      · exact .inr ⟨j, by omega, h2⟩
    · rw [if_neg (by decide), ob_s]
      exact ih (i + 1) F (nI i) (by omega) (by omega) (.inr ⟨i, by omega, rfl, hb⟩)
theorem PC.wh (h : PC c L M so pl bh k t t') (hT : TK c L M so pl bh) {f m : Nat} (hm : f + m ≤ 25) : ∃ y, tX10_wordHere (nI f) (nI m) t' = some y ∧ ((y = -1 ∧ ∀ j, j < m → isw c so pl bh k (f + j) = false) ∨ (∃ j, j < m ∧ y = nI j ∧ isw c so pl bh k (f + j) = true)) := by
  obtain ⟨y, e1, e2⟩ := h.whL hT hm m 0 4000 (-1) (by omega) (by omega) (.inl ⟨rfl, fun j hj => by omega⟩)
  refine ⟨y, ?_, e2⟩
  unfold tX10_wordHere
  have e1' : tX10_wordHere_L5 4000 (nI f) (nI m) (-1) 0 t' = some y := e1
  rw [e1']
  rfl
theorem isw_un {i j : Nat} (hi : i < 25) (hj : j < 25) (h1 : isw c so pl bh k i = true) (h2 : isw c so pl bh k j = true) : i = j := by
  unfold isw at h1 h2
  simp only [Bool.and_eq_true, decide_eq_true_eq] at h1 h2
  exact kw_nd i hi j hj (h1.2.symm.trans h2.2)
theorem isw_o {i j : Nat} (hi : i < 25) (hj : j < 25) (h1 : isw c so pl bh k i = true) (hij : j ≠ i) : isw c so pl bh k j = false := by
  cases h2 : isw c so pl bh k j
  · rfl
  · exact absurd (isw_un hj hi h2 h1) hij
end
