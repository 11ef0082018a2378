/-! ===== PURE: the tape's tokens ===== -/
section
variable {v nh nd st a b n m : Nat} {V : Nat → Nat → Nat} {S : Nat → Nat → Int32} {t0 t0' t t' : tS}
abbrev Bl (x : Nat) : Prop := x = 10 ∨ x = 32
abbrev Lt (x : Nat) : Prop := 97 ≤ x ∧ x ≤ 122
abbrev Dg (x : Nat) : Prop := 48 ≤ x ∧ x ≤ 57
def Sg (x : Nat) : Bool := Nat.beq x 40 || Nat.beq x 41 || Nat.beq x 59 || Nat.beq x 61 || Nat.beq x 60 || Nat.beq x 43 || Nat.beq x 45 || Nat.beq x 42
/-- a run of signs of a kind, from p to e -/
def Rn (P : Nat → Prop) (c : Nat → Nat) (L p e : Nat) : Prop := p < e ∧ e ≤ L ∧ (∀ i, p ≤ i → i < e → P (c i)) ∧ (e < L → ¬ P (c e))
theorem Rn.un {P : Nat → Prop} {c : Nat → Nat} {L p e f : Nat} (h : Rn P c L p e) (g : Rn P c L p f) : e = f := by
  obtain ⟨h1, h2, h3, h4⟩ := h
  obtain ⟨g1, g2, g3, g4⟩ := g
  by_cases c1 : e < f
  · exact absurd (g3 e (by omega) c1) (h4 (by omega))
  · by_cases c2 : f < e
    · exact absurd (h3 f (by omega) c2) (g4 (by omega))
    · omega
/-- the letters of n signs from p -/
def wl (c : Nat → Nat) (p : Nat) : Nat → List Nat
  | 0 => []
  | n + 1 => wl c p n ++ [c (p + n) - 96]
theorem wl_len {c : Nat → Nat} {p : Nat} : ∀ n, (wl c p n).length = n := by
  intro n
  induction n with
  | zero => rfl
  | succ n ih => rw [wl, List.length_append, ih]; rfl
theorem wl_get {c : Nat → Nat} {p : Nat} : ∀ n j, j < n → (wl c p n).getD j 0 = c (p + j) - 96 := by
  intro n
  induction n with
  | zero => intro j hj; omega
  | succ n ih =>
    intro j hj
    rw [wl]
    by_cases e : j < n
    · rw [List.getD_eq_getElem?_getD, List.getElem?_append_left (by rw [wl_len]; exact e), ← List.getD_eq_getElem?_getD]
      exact ih j e
    · obtain rfl : j = n := by omega
      rw [List.getD_eq_getElem?_getD, List.getElem?_append_right (by rw [wl_len]; exact Nat.le_refl _), wl_len, Nat.sub_self]
      rfl
theorem enc_sn {b : Nat} : ∀ (l : List Nat) (x k : Nat), enc b (l ++ [x]) k = b * enc b l k + x := by
  intro l
  induction l with
  | nil => intro x k; rfl
  | cons y l ih => intro x k; exact ih x _
def nv (c : Nat → Nat) (p : Nat) : Nat → Nat
  | 0 => 0
  | n + 1 => nv c p n * 10 + (c (p + n) - 48)
/-- what a token is: where it begins and ends, of which sort -/
def KI (c : Nat → Nat) (L p e s : Nat) : Prop := (Rn Lt c L p e ∧ s = if e - p ≤ 8 then 1 else 4) ∨ (Rn Dg c L p e ∧ s = if e - p ≤ 4 then 2 else 4) ∨ (¬ Lt (c p) ∧ ¬ Dg (c p) ∧ p < L ∧ e = p + 1 ∧ s = if Sg (c p) then 3 else 4)
theorem KI.un {c : Nat → Nat} {L p e s e1 s1 : Nat} (h : KI c L p e s) (g : KI c L p e1 s1) : e = e1 ∧ s = s1 := by
  have ld : ∀ x, Lt x → Dg x → False := by intro x h1 h2; unfold Lt at h1; unfold Dg at h2; omega
  rcases h with ⟨h1, h2⟩ | ⟨h1, h2⟩ | ⟨h1, h2, h3, h4, h5⟩
  · have k1 := h1.2.2.1 p (Nat.le_refl _) h1.1
    rcases g with ⟨g1, g2⟩ | ⟨g1, g2⟩ | ⟨g1, g2, g3⟩
    · obtain rfl := h1.un g1
      exact ⟨rfl, h2.trans g2.symm⟩
    · exact (ld _ k1 (g1.2.2.1 p (Nat.le_refl _) g1.1)).elim
    · exact absurd k1 g1
  · have k1 := h1.2.2.1 p (Nat.le_refl _) h1.1
    rcases g with ⟨g1, g2⟩ | ⟨g1, g2⟩ | ⟨g1, g2, g3⟩
    · exact (ld _ (g1.2.2.1 p (Nat.le_refl _) g1.1) k1).elim
    · obtain rfl := h1.un g1
      exact ⟨rfl, h2.trans g2.symm⟩
    · exact absurd k1 g2
  · rcases g with ⟨g1, g2⟩ | ⟨g1, g2⟩ | ⟨g1, g2, g3, g4, g5⟩
    · exact absurd (g1.2.2.1 p (Nat.le_refl _) g1.1) h1
    · exact absurd (g1.2.2.1 p (Nat.le_refl _) g1.1) h2
    · exact ⟨h4.trans g4.symm, h5.trans g5.symm⟩
/-- the tokens of a text -/
def TK (c : Nat → Nat) (L M : Nat) (so pl bh : Nat → Nat) : Prop :=
  L ≤ 1000 ∧ (∀ i, i < L → c i = 10 ∨ (32 ≤ c i ∧ c i ≤ 126)) ∧ M ≤ L ∧ bh 0 = 0 ∧ bh (M + 1) = L ∧ so M = 0 ∧ pl M = L ∧ bh M ≤ L ∧ (∀ i, bh M ≤ i → i < L → Bl (c i)) ∧ ∀ k, k < M → bh k ≤ pl k ∧ (∀ i, bh k ≤ i → i < pl k → Bl (c i)) ∧ pl k < L ∧ ¬ Bl (c (pl k)) ∧ pl k < bh (k + 1) ∧ bh (k + 1) ≤ L ∧ KI c L (pl k) (bh (k + 1)) (so k)
/-- the reference's rows of tokens -/
def RT (c : Nat → Nat) (M : Nat) (so pl bh : Nat → Nat) (t' : tS) : Prop := ∀ k, k ≤ M → t'.2.1 220 k = nI (so k) ∧ t'.2.1 221 k = nI (pl k) ∧ (so k = 1 → t'.2.2.1 222 k = nL (enc 37 (wl c (pl k) (bh (k + 1) - pl k)) 0)) ∧ (so k = 2 → t'.2.2.1 222 k = nL (nv c (pl k) (bh (k + 1) - pl k))) ∧ (so k = 3 → t'.2.2.1 222 k = nL (c (pl k)))
theorem isL {x : Nat} (hx : x < 200) : tX10_isLetter (nI x) t = some (bI (decide (Lt x))) ∧ tX10_isDigit (nI x) t = some (bI (decide (Dg x))) := by
  unfold tX10_isLetter tX10_isDigit Lt Dg
  simp (disch := omega) only [nN_ltl, nN_llt]
  constructor
  · by_cases c1 : x < 97
    · rw [if_pos c1, decide_eq_false (by omega)]
      rfl
    · by_cases c2 : 122 < x
      · rw [if_neg c1, if_pos c2, decide_eq_false (by omega)]
        rfl
      · rw [if_neg c1, if_neg c2, decide_eq_true (by omega)]
        rfl
  · by_cases c1 : x < 48
    · rw [if_pos c1, decide_eq_false (by omega)]
      rfl
    · by_cases c2 : 57 < x
      · rw [if_neg c1, if_pos c2, decide_eq_false (by omega)]
        rfl
      · rw [if_neg c1, if_neg c2, decide_eq_true (by omega)]
        rfl
theorem rank_e {x : Nat} (hx : x < 200) (hl : Lt x) : tX10_rank (nI x) t = some (nI (x - 96)) := by
  unfold tX10_rank
  rw [(isL hx).1, ob_s, decide_eq_true hl, if_neg (by decide), ob_s, show (96 : Int32) = nI 96 from rfl, nN_su (by unfold Lt at hl; omega)]
theorem sg_e {x : Nat} (hx : x < 127) : tX10_isSignOf (nI x) tz = some (bI (Sg x)) ∧ tX7_isSign (nI x) tz = some (bI (Sg x)) := by
  have d1 : ∀ x < 127, tX10_isSignOf (nI x) tz = some (bI (Sg x)) := by decide +kernel
  have d2 : ∀ x < 127, tX7_isSign (nI x) tz = some (bI (Sg x)) := by decide +kernel
  exact ⟨d1 x hx, d2 x hx⟩
theorem sg_M {x : Nat} (hx : x < 127) : tX10_isSignOf (nI x) t = some (bI (Sg x)) := (sg_e hx).1
theorem sg_C {x : Nat} (hx : x < 127) : tX7_isSign (nI x) t = some (bI (Sg x)) := (sg_e hx).2
/-- the signs of a text, in the reference -/
def MTX (c : Nat → Nat) (L : Nat) (t' : tS) : Prop := t'.1 218 3 = nI L ∧ ∀ i, i < L → t'.2.1 219 i = nI (c i) ∧ c i < 127
theorem cu70 {c : Nat → Nat} {L p n1 : Nat} (hL : L ≤ 1000) {T : tS} (h : MTX c L T) : ∀ (r n f : Nat), p + n + r = L → (∀ i, p ≤ i → i < p + n → Lt (c i)) → r < f → ∃ e, p + n ≤ e ∧ e ≤ L ∧ (∀ i, p ≤ i → i < e → Lt (c i)) ∧ (e < L → ¬ Lt (c e)) ∧ tX10_cutAll_L70 f (nI n1) (nI (p + n)) (nI p) (nL (enc 37 (wl c p (min n 8)) 0)) T = some (nI e, nL (enc 37 (wl c p (min (e - p) 8)) 0)) := by
  intro r
  induction r with
  | zero =>
    intro n f hn hl hf
    obtain ⟨f, rfl⟩ : ∃ g, f = g + 1 := ⟨f - 1, by omega⟩
    rw [tX10_cutAll_L70, h.1, if_pos ((nN_le (by omega) (by omega)).2 (by omega))]
    exact ⟨p + n, Nat.le_refl _, by omega, hl, fun z => by omega, by rw [show p + n - p = n from by omega]⟩
  | succ r ih =>
    intro n f hn hl hf
    obtain ⟨f, rfl⟩ : ∃ g, f = g + 1 := ⟨f - 1, by omega⟩
    obtain ⟨h1, h2⟩ := h.2 (p + n) (by omega)
    have c1 : ¬ L ≤ p + n := by omega
    rw [tX10_cutAll_L70]
    simp (disch := omega) only [nN_le, h.1, c1, ite_false, tA_e, h1, ob_s, (isL (show c (p + n) < 200 by omega)).1, bI_0, nN_su, nN_al]
    by_cases c2 : Lt (c (p + n))
    · have d2 : decide (Lt (c (p + n))) = true := decide_eq_true c2
      simp only [d2, Bool.true_eq_false, ite_false]
      have hl2 : ∀ i, p ≤ i → i < p + (n + 1) → Lt (c i) := by
        intro i h3 h4
        by_cases e : i = p + n
        · rw [e]; exact c2
        · exact hl i h3 (by omega)
      obtain ⟨e, e1, e2, e3, e4, e5⟩ := ih (n + 1) f (by omega) hl2 (by omega)
      refine ⟨e, by omega, e2, e3, e4, ?_⟩
      rw [show p + n - p = n from by omega]
      by_cases c3 : 8 ≤ n
      · rw [if_pos ((nN_lle (by omega) (by decide)).2 c3), ob_s]
        rw [show min (n + 1) 8 = 8 from by omega] at e5
        rw [show min n 8 = 8 from by omega]
        exact e5
      · rw [if_neg (fun z => c3 ((nN_lle (by omega) (by decide)).1 z)), rank_e (by omega) c2, ob_s, ob_s, nI_64 (by omega), show (37 : Int64) = nL 37 from rfl, nL_mu, nL_ad]
        rw [show min (n + 1) 8 = n + 1 from by omega, wl, enc_sn] at e5
        rw [show min n 8 = n from by omega]
        exact e5
    · have d2 : decide (Lt (c (p + n))) = false := decide_eq_false c2
      simp only [d2, ite_true]
      exact ⟨p + n, Nat.le_refl _, by omega, hl, fun _ => c2, by rw [show p + n - p = n from by omega]⟩
theorem cu159 {c : Nat → Nat} {L p n1 : Nat} (hL : L ≤ 1000) {T : tS} (h : MTX c L T) : ∀ (r n f : Nat), p + n + r = L → (∀ i, p ≤ i → i < p + n → Dg (c i)) → r < f → ∃ e, p + n ≤ e ∧ e ≤ L ∧ (∀ i, p ≤ i → i < e → Dg (c i)) ∧ (e < L → ¬ Dg (c e)) ∧ tX10_cutAll_L159 f (nI n1) (nI (p + n)) (nI p) (nL (nv c p (min n 4))) T = some (nI e, nL (nv c p (min (e - p) 4))) := by
  intro r
  induction r with
  | zero =>
    intro n f hn hl hf
    obtain ⟨f, rfl⟩ : ∃ g, f = g + 1 := ⟨f - 1, by omega⟩
    rw [tX10_cutAll_L159, h.1, if_pos ((nN_le (by omega) (by omega)).2 (by omega))]
    exact ⟨p + n, Nat.le_refl _, by omega, hl, fun z => by omega, by rw [show p + n - p = n from by omega]⟩
  | succ r ih =>
    intro n f hn hl hf
    obtain ⟨f, rfl⟩ : ∃ g, f = g + 1 := ⟨f - 1, by omega⟩
    obtain ⟨h1, h2⟩ := h.2 (p + n) (by omega)
    have c1 : ¬ L ≤ p + n := by omega
    rw [tX10_cutAll_L159]
    simp (disch := omega) only [nN_le, h.1, c1, ite_false, tA_e, h1, ob_s, (isL (show c (p + n) < 200 by omega)).2, bI_0, nN_su, nN_al]
    by_cases c2 : Dg (c (p + n))
    · have d2 : decide (Dg (c (p + n))) = true := decide_eq_true c2
      have g2 : 48 ≤ c (p + n) := c2.1
      simp only [d2, Bool.true_eq_false, ite_false]
      have hl2 : ∀ i, p ≤ i → i < p + (n + 1) → Dg (c i) := by
        intro i h3 h4
        by_cases e : i = p + n
        · rw [e]; exact c2
        · exact hl i h3 (by omega)
      obtain ⟨e, e1, e2, e3, e4, e5⟩ := ih (n + 1) f (by omega) hl2 (by omega)
      refine ⟨e, by omega, e2, e3, e4, ?_⟩
      rw [show p + n - p = n from by omega]
      by_cases c3 : 4 ≤ n
      · rw [if_pos ((nN_lle (by omega) (by decide)).2 c3), ob_s]
        rw [show min (n + 1) 4 = 4 from by omega] at e5
        rw [show min n 4 = 4 from by omega]
        exact e5
      · rw [if_neg (fun z => c3 ((nN_lle (by omega) (by decide)).1 z)), ob_s, nI_64 (by omega), show (10 : Int64) = nL 10 from rfl, show (48 : Int64) = nL 48 from rfl, nL_mu, nL_ad, nL_su (by omega)]
        rw [show min (n + 1) 4 = n + 1 from by omega, nv] at e5
        rw [show min n 4 = n from by omega]
        rw [show 10 * nv c p n + c (p + n) - 48 = nv c p n * 10 + (c (p + n) - 48) from by omega]
        exact e5
    · have d2 : decide (Dg (c (p + n))) = false := decide_eq_false c2
      simp only [d2, ite_true]
      exact ⟨p + n, Nat.le_refl _, by omega, hl, fun _ => c2, by rw [show p + n - p = n from by omega]⟩
/-- what cutting may change -/
def CUT (t t1 : tS) : Prop := t1.1 = t.1 ∧ (∀ b i, b ≠ 220 → b ≠ 221 → t1.2.1 b i = t.2.1 b i) ∧ (∀ b i, b ≠ 222 → t1.2.2.1 b i = t.2.2.1 b i) ∧ t1.2.2.2 = t.2.2.2
theorem CUT.tr {t1 t2 : tS} (h : CUT t t1) (g : CUT t1 t2) : CUT t t2 := ⟨g.1.trans h.1, fun b i h1 h2 => (g.2.1 b i h1 h2).trans (h.2.1 b i h1 h2), fun b i h1 => (g.2.2.1 b i h1).trans (h.2.2.1 b i h1), g.2.2.2.trans h.2.2.2⟩
theorem MTX.cut {c : Nat → Nat} {L : Nat} {t1 : tS} (h : MTX c L t) (g : CUT t t1) : MTX c L t1 := by
  refine ⟨by rw [g.1]; exact h.1, fun i hi => ?_⟩
  rw [g.2.1 _ _ (by omega) (by omega)]
  exact h.2 i hi
/-- what is cut so far: n tokens, the next scanned from b on, all blank up to q -/
def CU (c : Nat → Nat) (L n b q : Nat) (so pl bh : Nat → Nat) (T : tS) : Prop := n ≤ b ∧ b ≤ q ∧ q ≤ L ∧ bh 0 = 0 ∧ bh n = b ∧ (∀ i, b ≤ i → i < q → Bl (c i)) ∧ ∀ k, k < n → bh k ≤ pl k ∧ (∀ i, bh k ≤ i → i < pl k → Bl (c i)) ∧ pl k < L ∧ ¬ Bl (c (pl k)) ∧ pl k < bh (k + 1) ∧ bh (k + 1) ≤ L ∧ KI c L (pl k) (bh (k + 1)) (so k) ∧ T.2.1 220 k = nI (so k) ∧ T.2.1 221 k = nI (pl k) ∧ (so k = 1 → T.2.2.1 222 k = nL (enc 37 (wl c (pl k) (bh (k + 1) - pl k)) 0)) ∧ (so k = 2 → T.2.2.1 222 k = nL (nv c (pl k) (bh (k + 1) - pl k))) ∧ (so k = 3 → T.2.2.1 222 k = nL (c (pl k)))
theorem CU.bl {c : Nat → Nat} {L n b q : Nat} {so pl bh : Nat → Nat} {T : tS} (h : CU c L n b q so pl bh T) (hq : q < L) (hb : Bl (c q)) : CU c L n b (q + 1) so pl bh T := by
  obtain ⟨h1, h2, h3, h4, h5, h6, h7⟩ := h
  refine ⟨h1, by omega, by omega, h4, h5, fun i g1 g2 => ?_, h7⟩
  by_cases e : i = q
  · rw [e]; exact hb
  · exact h6 i g1 (by omega)
/-- one more token -/
theorem CU.tok {c : Nat → Nat} {L n b q e s : Nat} {x : Int64} {so pl bh : Nat → Nat} {T : tS} (h : CU c L n b q so pl bh T) (hq : q < L) (hb : ¬ Bl (c q)) (hk : KI c L q e s) (hqe : q < e) (he : e ≤ L) (h1 : s = 1 → x = nL (enc 37 (wl c q (e - q)) 0)) (h2 : s = 2 → x = nL (nv c q (e - q))) (h3 : s = 3 → x = nL (c q)) : CU c L (n + 1) e e (fun k => if k = n then s else so k) (fun k => if k = n then q else pl k) (fun k => if k = n + 1 then e else bh k) (uB (uA (uA T 221 n (nI q)) 220 n (nI s)) 222 n x) := by
  obtain ⟨g1, g2, g3, g4, g5, g6, g7⟩ := h
  refine ⟨by omega, Nat.le_refl _, he, ?_, ?_, fun i _ _ => by omega, fun k hk2 => ?_⟩
  · show (if 0 = n + 1 then e else bh 0) = 0
    rw [if_neg (by omega)]
    exact g4
  · show (if n + 1 = n + 1 then e else bh (n + 1)) = e
    rw [if_pos rfl]
  · have w1 : (uB (uA (uA T 221 n (nI q)) 220 n (nI s)) 222 n x).2.1 220 k = if k = n then nI s else T.2.1 220 k := by
      show (uA (uA T 221 n (nI q)) 220 n (nI s)).2.1 220 k = _
      rw [uA_2]
      by_cases e9 : k = n
      · rw [if_pos ⟨rfl, e9⟩, if_pos e9]
      · rw [if_neg (fun z => e9 z.2), if_neg e9, uA_2, if_neg (by omega)]
    have w2 : (uB (uA (uA T 221 n (nI q)) 220 n (nI s)) 222 n x).2.1 221 k = if k = n then nI q else T.2.1 221 k := by
      show (uA (uA T 221 n (nI q)) 220 n (nI s)).2.1 221 k = _
      rw [uA_2, if_neg (by omega), uA_2]
      by_cases e9 : k = n
      · rw [if_pos ⟨rfl, e9⟩, if_pos e9]
      · rw [if_neg (fun z => e9 z.2), if_neg e9]
    have w3 : (uB (uA (uA T 221 n (nI q)) 220 n (nI s)) 222 n x).2.2.1 222 k = if k = n then x else T.2.2.1 222 k := by
      show up2 T.2.2.1 222 n x 222 k = _
      unfold up2
      by_cases e9 : k = n
      · rw [if_pos ⟨rfl, e9⟩, if_pos e9]
      · rw [if_neg (fun z => e9 z.2), if_neg e9]
    rw [w1, w2, w3]
    by_cases e9 : k = n
    · subst e9
      simp only [if_true, show ¬ k = k + 1 from by omega, if_false, g5]
      exact ⟨g2, g6, hq, hb, hqe, he, hk, trivial, trivial, h1, h2, h3⟩
    · have e10 : ¬ k = n + 1 := by omega
      have e11 : ¬ k + 1 = n + 1 := by omega
      simp only [e9, e10, e11, if_false]
      exact g7 k (by omega)
theorem cuL {c : Nat → Nat} {L : Nat} (hL : L ≤ 1000) (hch : ∀ i, i < L → c i = 10 ∨ (32 ≤ c i ∧ c i ≤ 126)) : ∀ (r n b q f : Nat) (so pl bh : Nat → Nat) (T : tS), L - q ≤ r → MTX c L T → CU c L n b q so pl bh T → r < f → ∃ M b1 so1 pl1 bh1 T1, tX10_cutAll_L17 f (nI n) (nI q) T = some (nI M, T1) ∧ CU c L M b1 L so1 pl1 bh1 T1 ∧ CUT T T1 := by
  intro r
  induction r with
  | zero =>
    intro n b q f so pl bh T hr hm hc hf
    obtain ⟨f, rfl⟩ : ∃ g, f = g + 1 := ⟨f - 1, by omega⟩
    have hq : q = L := by have := hc.2.2.1; omega
    subst hq
    rw [tX10_cutAll_L17, hm.1, if_pos (Int32.le_refl _)]
    exact ⟨n, b, so, pl, bh, T, rfl, hc, rfl, fun _ _ _ _ => rfl, fun _ _ _ => rfl, rfl⟩
  | succ r ih =>
    intro n b q f so pl bh T hr hm hc hf
    obtain ⟨f, rfl⟩ : ∃ g, f = g + 1 := ⟨f - 1, by omega⟩
    by_cases cq : q = L
    · subst cq
      rw [tX10_cutAll_L17, hm.1, if_pos (Int32.le_refl _)]
      exact ⟨n, b, so, pl, bh, T, rfl, hc, rfl, fun _ _ _ _ => rfl, fun _ _ _ => rfl, rfl⟩
    · have hqL : q < L := by have := hc.2.2.1; omega
      have hn1 := hc.1
      have hb1 := hc.2.1
      obtain ⟨h1, h2⟩ := hm.2 q hqL
      have c1 : ¬ L ≤ q := by omega
      have ch := hch q hqL
      have isl := isL (t := uA T 221 n (nI q)) (show c q < 200 by omega)
      have sgm := sg_M (t := uA T 221 n (nI q)) h2
      rw [tX10_cutAll_L17]
      simp (disch := omega) only [nN_le, hm.1, c1, ite_false, tA_e, h1, ob_s, nN_eql, nN_al]
      by_cases b1 : c q = 10
      · simp only [eq_true b1, ite_true]
        exact ih n b (q + 1) f so pl bh T (by omega) hm (hc.bl hqL (.inl b1)) (by omega)
      · by_cases b2 : c q = 32
        · simp only [b1, ite_false, eq_true b2, not_true_eq_false]
          exact ih n b (q + 1) f so pl bh T (by omega) hm (hc.bl hqL (.inr b2)) (by omega)
        · have nb : ¬ Bl (c q) := by intro z; rcases z with z | z <;> contradiction
          have hm1 : MTX c L (uA T 221 n (nI q)) := ⟨hm.1, fun i hi => by rw [uA_2, if_neg (by omega)]; exact hm.2 i hi⟩
          have cutT : ∀ (s : Int32) (x : Int64), CUT T (uB (uA (uA T 221 n (nI q)) 220 n s) 222 n x) := by
            intro s x
            refine ⟨rfl, fun b i g1 g2 => ?_, fun b i g1 => ?_, rfl⟩
            · show (uA (uA T 221 n (nI q)) 220 n s).2.1 b i = _
              rw [uA_2, if_neg (by omega), uA_2, if_neg (by omega)]
            · show up2 T.2.2.1 222 n x b i = _
              rw [up2_o g1]
          have go : ∀ (e s : Nat) (x : Int64), KI c L q e s → q < e → e ≤ L → (s = 1 → x = nL (enc 37 (wl c q (e - q)) 0)) → (s = 2 → x = nL (nv c q (e - q))) → (s = 3 → x = nL (c q)) → ∃ M b1 so1 pl1 bh1 T1, ((tWB (uA (uA T 221 n (nI q)) 220 n (nI s)) 222 1002 (nI n) x).bind fun tt111 => tX10_cutAll_L17 f (nI (n + 1)) (nI e) tt111) = some (nI M, T1) ∧ CU c L M b1 L so1 pl1 bh1 T1 ∧ CUT T T1 := by
            intro e s x k1 k2 k3 k4 k5 k6
            rw [tWB_e (by omega) (by omega), ob_s]
            obtain ⟨M, b1, so1, pl1, bh1, T1, a1, a2, a3⟩ := ih (n + 1) e e f _ _ _ _ (by omega) (hm.cut (cutT (nI s) x)) (hc.tok hqL nb k1 k2 k3 k4 k5 k6) (by omega)
            exact ⟨M, b1, so1, pl1, bh1, T1, a1, a2, (cutT (nI s) x).tr a3⟩
          simp (disch := omega) only [b1, ite_false, b2, not_false_eq_true, ite_true, tW0_e, ob_s, isl.1, isl.2, sgm, bI_0]
          by_cases l1 : Lt (c q)
          · have d1 : decide (Lt (c q)) = true := decide_eq_true l1
            obtain ⟨e, e1, e2, e3, e4, e5⟩ := cu70 (n1 := n) (p := q) hL hm1 (L - (q + 0)) 0 4000 (by omega) (fun i _ _ => by omega) (by omega)
            have e5' : tX10_cutAll_L70 4000 (nI n) (nI q) (nI q) 0 (uA T 221 n (nI q)) = some (nI e, nL (enc 37 (wl c q (min (e - q) 8)) 0)) := e5
            have hqe : q < e := by
              by_cases z : q < e
              · exact z
              · obtain rfl : e = q := by omega
                exact absurd l1 (e4 hqL)
            have rn : Rn Lt c L q e := ⟨hqe, e2, e3, e4⟩
            simp (disch := omega) only [d1, Bool.true_eq_false, ite_false, e5', ob_2, nN_su, nN_lel]
            by_cases c8 : e - q ≤ 8
            · simp (disch := omega) only [eq_true c8, ite_true, ob_s, ob_3, tW0_e]
              rw [show min (e - q) 8 = e - q from by omega]
              exact go e 1 _ (.inl ⟨rn, by rw [if_pos c8]⟩) hqe e2 (fun _ => rfl) (fun z => absurd z (by decide)) (fun z => absurd z (by decide))
            · simp (disch := omega) only [c8, ite_false, ob_s, ob_3, tW0_e]
              exact go e 4 _ (.inl ⟨rn, by rw [if_neg c8]⟩) hqe e2 (fun z => absurd z (by decide)) (fun z => absurd z (by decide)) (fun z => absurd z (by decide))
          · have d1 : decide (Lt (c q)) = false := decide_eq_false l1
            by_cases l2 : Dg (c q)
            · have d2 : decide (Dg (c q)) = true := decide_eq_true l2
              obtain ⟨e, e1, e2, e3, e4, e5⟩ := cu159 (n1 := n) (p := q) hL hm1 (L - (q + 0)) 0 4000 (by omega) (fun i _ _ => by omega) (by omega)
              have e5' : tX10_cutAll_L159 4000 (nI n) (nI q) (nI q) 0 (uA T 221 n (nI q)) = some (nI e, nL (nv c q (min (e - q) 4))) := e5
              have hqe : q < e := by
                by_cases z : q < e
                · exact z
                · obtain rfl : e = q := by omega
                  exact absurd l2 (e4 hqL)
              have rn : Rn Dg c L q e := ⟨hqe, e2, e3, e4⟩
              simp (disch := omega) only [d1, d2, Bool.true_eq_false, ite_true, ite_false, e5', ob_2, nN_su, nN_lel]
              by_cases c8 : e - q ≤ 4
              · simp (disch := omega) only [eq_true c8, ite_true, ob_s, ob_3, tW0_e]
                rw [show min (e - q) 4 = e - q from by omega]
                exact go e 2 _ (.inr (.inl ⟨rn, by rw [if_pos c8]⟩)) hqe e2 (fun z => absurd z (by decide)) (fun _ => rfl) (fun z => absurd z (by decide))
              · simp (disch := omega) only [c8, ite_false, ob_s, ob_3, tW0_e]
                exact go e 4 _ (.inr (.inl ⟨rn, by rw [if_neg c8]⟩)) hqe e2 (fun z => absurd z (by decide)) (fun z => absurd z (by decide)) (fun z => absurd z (by decide))
            · have d2 : decide (Dg (c q)) = false := decide_eq_false l2
              simp (disch := omega) only [d1, d2, ite_true, nI_64]
              cases hs : Sg (c q)
              · simp (disch := omega) only [ite_true, ob_s, ob_3, tW0_e]
                exact go (q + 1) 4 _ (.inr (.inr ⟨l1, l2, hqL, rfl, by rw [hs]; rfl⟩)) (by omega) (by omega) (fun z => absurd z (by decide)) (fun z => absurd z (by decide)) (fun z => absurd z (by decide))
              · simp (disch := omega) only [Bool.true_eq_false, ite_false, ob_s, ob_3, tW0_e]
                exact go (q + 1) 3 _ (.inr (.inr ⟨l1, l2, hqL, rfl, by rw [hs]; rfl⟩)) (by omega) (by omega) (fun z => absurd z (by decide)) (fun z => absurd z (by decide)) (fun _ => rfl)
end
