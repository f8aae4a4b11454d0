/-! ===== pure layer: the tape's tokens ===== -/
def q_from (Q : QT) : Int32 := Q.1
def q_to (Q : QT) : Int32 := Q.2.1
def q_token (Q : QT) : Int32 := Q.2.2.1
def q_value (Q : QT) : Int32 := Q.2.2.2.1
def qs_from (Q : QT) (v : Int32) : QT := (v, Q.2)
def qs_to (Q : QT) (v : Int32) : QT := (Q.1, v, Q.2.2)
def qs_token (Q : QT) (v : Int32) : QT := (Q.1, Q.2.1, v, Q.2.2.2)
def qs_value (Q : QT) (v : Int32) : QT := (Q.1, Q.2.1, Q.2.2.1, v, Q.2.2.2.2)
section T0
variable {B : Nat → Int32} {z s a t v : Int32}
theorem tg_b : t_bytes ((B, z, s, a, t) : TapeT) = B := id rfl
theorem tg_z : t_size ((B, z, s, a, t) : TapeT) = z := id rfl
theorem tg_s : t_start ((B, z, s, a, t) : TapeT) = s := id rfl
theorem tg_a : t_at ((B, z, s, a, t) : TapeT) = a := id rfl
theorem tg_t : t_token ((B, z, s, a, t) : TapeT) = t := id rfl
theorem tp_z : ts_size ((B, z, s, a, t) : TapeT) v = (B, v, s, a, t) := id rfl
theorem tp_s : ts_start ((B, z, s, a, t) : TapeT) v = (B, z, v, a, t) := id rfl
theorem tp_a : ts_at ((B, z, s, a, t) : TapeT) v = (B, z, s, v, t) := id rfl
theorem tp_t : ts_token ((B, z, s, a, t) : TapeT) v = (B, z, s, a, v) := id rfl
end T0
section L0
variable {n c : Nat} {k w l : Nat → Nat} {d f wm hr b ch : Nat} {sd : Int32} {P : PT} {Q : QT} {S : XT} {M : MT} {p1 p2 p3 p4 p5 : Int32} {B : Nat → Int32} {z : Nat} {o : Nat → Int32}
theorem f_fr : m_from (eM n c k w l d f wm hr b ch sd P Q) = q_from Q := id rfl
theorem f_to : m_to (eM n c k w l d f wm hr b ch sd P Q) = q_to Q := id rfl
theorem f_tok : m_token (eM n c k w l d f wm hr b ch sd P Q) = q_token Q := id rfl
theorem f_val : m_value (eM n c k w l d f wm hr b ch sd P Q) = q_value Q := id rfl
theorem fs_fr {v : Int32} : ms_from (eM n c k w l d f wm hr b ch sd P Q) v = eM n c k w l d f wm hr b ch sd P (qs_from Q v) := id rfl
theorem fs_to {v : Int32} : ms_to (eM n c k w l d f wm hr b ch sd P Q) v = eM n c k w l d f wm hr b ch sd P (qs_to Q v) := id rfl
theorem fs_tok {v : Int32} : ms_token (eM n c k w l d f wm hr b ch sd P Q) v = eM n c k w l d f wm hr b ch sd P (qs_token Q v) := id rfl
theorem fs_val {v : Int32} : ms_value (eM n c k w l d f wm hr b ch sd P Q) v = eM n c k w l d f wm hr b ch sd P (qs_value Q v) := id rfl
/-- both have read the same token, from a to e -/
def TM (B : Nat → Int32) (z a e : Nat) (tk : Int32) (Q : QT) (o : Nat → Int32) : Prop := q_from Q = nI a ∧ q_to Q = nI e ∧ a ≤ e ∧ e ≤ z ∧ q_ahead Q = o ∧ ((tk = 0 ∧ q_token Q = 101) ∨ (tk = 1 ∧ q_token Q = 119 ∧ a < e) ∨ (tk = 2 ∧ a < e ∧ (∃ v, v ≤ 999 ∧ q_value Q = nI v ∧ fX3_tokenValue (B, nI z, nI a, nI e, 2) = some (nI v)) ∧ q_token Q = if e - a ≤ 3 then 48 else 120) ∨ (tk = 3 ∧ q_token Q = 59 ∧ a < e) ∨ (tk = 4 ∧ q_token Q = 120 ∧ a < e))
/-- a number's value by its first digits -/
def vl (B : Nat → Int32) (a : Nat) : Nat → Int32
  | 0 => 0
  | j + 1 => (10 : Int32) * vl B a j + B (a + j) - 48
theorem tv_eq {a e : Nat} {tk : Int32} (hz : z ≤ 250) (ha : a ≤ e) (he : e ≤ z) : fX3_tokenValue (B, nI z, nI a, nI e, tk) = some (vl B a (if e - a ≤ 3 then e - a else 3)) := by
  have q : ∀ (r j fu : Nat), j + r = (if e - a ≤ 3 then e - a else 3) → r < fu → fX3_tokenValue_L7 (B, nI z, nI a, nI e, tk) fu (vl B a j) (nI (a + j)) = some (vl B a (if e - a ≤ 3 then e - a else 3)) := by
    intro r
    induction r with
    | zero =>
      intro j fu e1 hf
      cases fu with
      | zero => omega
      | succ fu =>
        unfold fX3_tokenValue_L7
        rw [tg_a, tg_s, show nI a + (3 : Int32) = nI (a + 3) from nI_add a 3]
        have ej : j = (if e - a ≤ 3 then e - a else 3) := by omega
        rw [← ej]
        by_cases q : e - a ≤ 3
        · rw [if_pos q] at ej
          rw [if_pos (nI_le (show e ≤ a + j by omega) (by omega))]
        · rw [if_neg q] at ej
          rw [if_neg (nI_ge (show a + j < e by omega) (by omega)), if_pos (nI_le (show a + 3 ≤ a + j by omega) (by omega))]
    | succ r ih =>
      intro j fu e1 hf
      cases fu with
      | zero => omega
      | succ fu =>
        have hj : j < e - a ∧ j < 3 := by
          by_cases q : e - a ≤ 3
          · rw [if_pos q] at e1
            omega
          · rw [if_neg q] at e1
            omega
        unfold fX3_tokenValue_L7
        rw [tg_a, tg_s, tg_b, show nI a + (3 : Int32) = nI (a + 3) from nI_add a 3, if_neg (nI_ge (show a + j < e by omega) (by omega)), if_neg (nI_ge (show a + j < a + 3 by omega) (by omega)), if_neg (show ¬ (250 : Int32) ≤ nI (a + j) from nI_ge (a := a + j) (b := 250) (by omega) (by omega)), u_gd (show a + j < 250 by omega) (by decide), u_ix (by omega), nI_1]
        exact ih (j + 1) fu (by omega) (by omega)
  unfold fX3_tokenValue
  rw [tg_s]
  exact q _ 0 FU (Nat.zero_add _) (by show (if e - a ≤ 3 then e - a else 3) < 1100; split <;> omega)
theorem dig_of {x : Int32} (h1 : ¬ x < 48) (h2 : ¬ 57 < x) : ∃ g, g ≤ 9 ∧ x = nI (48 + g) := by
  obtain ⟨j, hj, rfl⟩ := nI_of (nn_lt h1 (by decide))
  have a1 : 48 ≤ j := by
    rcases Nat.lt_or_ge j 48 with q | q
    · exact absurd (nI_lt (a := j) (b := 48) q (by omega)) h1
    · exact q
  have a2 : j ≤ 57 := by
    rcases Nat.lt_or_ge 57 j with q | q
    · exact absurd (nI_lt (a := 57) (b := j) q hj) h2
    · exact q
  exact ⟨j - 48, by omega, by rw [show 48 + (j - 48) = j by omega]⟩
theorem vl_num {a : Nat} : ∀ {j : Nat}, j ≤ 3 → (∀ i, i < j → ¬ B (a + i) < 48 ∧ ¬ 57 < B (a + i)) → ∃ v, v < 10 ^ j ∧ vl B a j = nI v
  | 0, _, _ => ⟨0, by decide, rfl⟩
  | j + 1, hj, h => by
    obtain ⟨v, hv, e⟩ := vl_num (a := a) (j := j) (by omega) (fun i hi => h i (by omega))
    obtain ⟨g, hg, e2⟩ := dig_of (h j (by omega)).1 (h j (by omega)).2
    refine ⟨10 * v + g, by rw [Nat.pow_succ]; omega, ?_⟩
    rw [vl, e, e2, show (10 : Int32) * nI v = nI (10 * v) from pk_mul 10 v, nI_add, show nI (10 * v + (48 + g)) - (48 : Int32) = nI (10 * v + (48 + g) - 48) from pk_sub (a := 10 * v + (48 + g)) (b := 48) (by omega)]
    congr 1
    omega
theorem so_let {x : Int32} (h1 : ¬ x < 97) (h2 : ¬ 122 < x) : fX3_sortOf x = some 1 ∧ fX5_isLetter x = some 1 := by
  unfold fX3_sortOf fX5_isLetter
  rw [if_neg h1, if_neg h2, if_neg h1, if_neg h2]
  exact ⟨rfl, rfl⟩
/-- a letter's sort, as both see it -/
theorem sort_cases (x : Int32) : (fX3_sortOf x = some 1 ∧ fX5_isLetter x = some 1) ∨ (fX3_sortOf x = some 2 ∧ fX5_isLetter x = some 0 ∧ fX5_isDigit x = some 1 ∧ ¬ x < 48 ∧ ¬ 57 < x) ∨ (fX3_sortOf x = some 3 ∧ fX5_isLetter x = some 0 ∧ fX5_isDigit x = some 0 ∧ x = 59) ∨ (fX3_sortOf x = some 4 ∧ fX5_isLetter x = some 0 ∧ fX5_isDigit x = some 0 ∧ ¬ x = 59) := by
  have key : ∀ L : Option Int32, (L = some 0) → (fX3_sortOf_j14 x = some 2 ∧ L = some 0 ∧ fX5_isDigit x = some 1 ∧ ¬ x < 48 ∧ ¬ 57 < x) ∨ (fX3_sortOf_j14 x = some 3 ∧ L = some 0 ∧ fX5_isDigit x = some 0 ∧ x = 59) ∨ (fX3_sortOf_j14 x = some 4 ∧ L = some 0 ∧ fX5_isDigit x = some 0 ∧ ¬ x = 59) := by
    intro L hL
    unfold fX3_sortOf_j14 fX3_sortOf_j28 fX5_isDigit
    by_cases h1 : x < 48
    · rw [if_pos h1, if_pos h1]
      by_cases h3 : x = 59
      · exfalso
        rw [h3] at h1
        revert h1
        decide
      · rw [if_neg h3]
        exact Or.inr (Or.inr ⟨rfl, hL, rfl, h3⟩)
    · rw [if_neg h1, if_neg h1]
      by_cases h2 : 57 < x
      · rw [if_pos h2, if_pos h2]
        by_cases h3 : x = 59
        · rw [if_pos h3]
          exact Or.inr (Or.inl ⟨rfl, hL, rfl, h3⟩)
        · rw [if_neg h3]
          exact Or.inr (Or.inr ⟨rfl, hL, rfl, h3⟩)
      · rw [if_neg h2, if_neg h2]
        exact Or.inl ⟨rfl, hL, rfl, h1, h2⟩
  by_cases h1 : x < 97
  · have e1 : fX3_sortOf x = fX3_sortOf_j14 x := by
      unfold fX3_sortOf
      rw [if_pos h1]
    have e2 : fX5_isLetter x = some 0 := by
      unfold fX5_isLetter
      rw [if_pos h1]
    rw [e1]
    exact Or.inr (key _ e2)
  · by_cases h2 : 122 < x
    · have e1 : fX3_sortOf x = fX3_sortOf_j14 x := by
        unfold fX3_sortOf
        rw [if_neg h1, if_pos h2]
      have e2 : fX5_isLetter x = some 0 := by
        unfold fX5_isLetter
        rw [if_neg h1, if_pos h2]
      rw [e1]
      exact Or.inr (key _ e2)
    · exact Or.inl (so_let h1 h2)
theorem lex_w (hB : ∀ i, i < 250 → B i = p_tape P i) (hz : z ≤ 250) (hT : p_taped P = nI z) {a : Nat} : ∀ (r e fu : Nat) (Q : QT), e + r = z → r < fu → q_to Q = nI e → ∃ (e' : Nat) (Q' : QT), e ≤ e' ∧ e' ≤ z ∧ fX3_readToken_L111 fu (B, nI z, nI a, nI e, 1) = some (B, nI z, nI a, nI e', 1) ∧ fX5_next_L96 fu (eM n c k w l d f wm hr b ch sd P Q) = some (eM n c k w l d f wm hr b ch sd P Q') ∧ q_to Q' = nI e' ∧ q_from Q' = q_from Q ∧ q_ahead Q' = q_ahead Q ∧ q_token Q' = 119 := by
  intro r
  induction r with
  | zero =>
    intro e fu Q e1 hf hQ
    obtain rfl : e = z := by omega
    cases fu with
    | zero => omega
    | succ fu =>
      refine ⟨e, qs_token Q 119, Nat.le_refl _, Nat.le_refl _, ?_, ?_, hQ, rfl, rfl, rfl⟩
      · unfold fX3_readToken_L111
        rw [tg_z, tg_a, if_pos (nI_le (Nat.le_refl _) (by omega))]
      · unfold fX5_next_L96 fX5_next_j135
        rw [f_taped, f_to, hT, hQ, if_pos (nI_le (Nat.le_refl _) (by omega))]
        simp only [bs, fs_tok]
  | succ r ih =>
    intro e fu Q e1 hf hQ
    cases fu with
    | zero => omega
    | succ fu =>
      have stop : fX3_sortOf (p_tape P e) ≠ some 1 → fX5_isLetter (p_tape P e) = some 0 → (∃ y, fX3_sortOf (p_tape P e) = some y ∧ ¬ y = 1) → ∃ (e' : Nat) (Q' : QT), e ≤ e' ∧ e' ≤ z ∧ fX3_readToken_L111 (fu + 1) (B, nI z, nI a, nI e, 1) = some (B, nI z, nI a, nI e', 1) ∧ fX5_next_L96 (fu + 1) (eM n c k w l d f wm hr b ch sd P Q) = some (eM n c k w l d f wm hr b ch sd P Q') ∧ q_to Q' = nI e' ∧ q_from Q' = q_from Q ∧ q_ahead Q' = q_ahead Q ∧ q_token Q' = 119 := by
        intro _ h2 h3
        obtain ⟨y, h3, h4⟩ := h3
        refine ⟨e, qs_token Q 119, Nat.le_refl _, by omega, ?_, ?_, hQ, rfl, rfl, rfl⟩
        · unfold fX3_readToken_L111
          rw [tg_z, tg_a, tg_b, tg_t, if_neg (nI_ge (show e < z by omega) (by omega)), u_gd (by omega) (by omega), u_ix (by omega), hB e (by omega), h3]
          simp only [bs, if_neg h4]
        · unfold fX5_next_L96 fX5_next_j135
          rw [f_taped, f_to, f_tape, hT, hQ, if_neg (nI_ge (show e < z by omega) (by omega)), u_gd (by omega) (by omega), u_ix (by omega), h2]
          simp only [bs, ↓reduceIte, fs_tok]
      rcases sort_cases (p_tape P e) with ⟨a1, a2⟩ | ⟨a1, a2, -⟩ | ⟨a1, a2, -⟩ | ⟨a1, a2, -⟩
      · obtain ⟨e', Q', b1, b2, b3, b4, b5, b6, b7, b8⟩ := ih (e + 1) fu (qs_to Q (nI (e + 1))) (by omega) (by omega) rfl
        refine ⟨e', Q', by omega, b2, ?_, ?_, b5, b6, b7, b8⟩
        · unfold fX3_readToken_L111
          rw [tg_z, tg_a, tg_b, tg_t, if_neg (nI_ge (show e < z by omega) (by omega)), u_gd (by omega) (by omega), u_ix (by omega), hB e (by omega), a1]
          simp only [bs, ↓reduceIte, tp_a, nI_1]
          exact b3
        · unfold fX5_next_L96
          rw [f_taped, f_to, f_tape, hT, hQ, if_neg (nI_ge (show e < z by omega) (by omega)), u_gd (by omega) (by omega), u_ix (by omega), a2]
          simp only [bs, one0, ↓reduceIte, nI_1, fs_to]
          exact b4
      · exact stop (by rw [a1]; decide) a2 ⟨2, a1, by decide⟩
      · exact stop (by rw [a1]; decide) a2 ⟨3, a1, by decide⟩
      · exact stop (by rw [a1]; decide) a2 ⟨4, a1, by decide⟩
theorem lex_d (hB : ∀ i, i < 250 → B i = p_tape P i) (hz : z ≤ 250) (hT : p_taped P = nI z) {a : Nat} : ∀ (r e fu : Nat) (Q : QT), e + r = z → r < fu → a < e → q_from Q = nI a → q_to Q = nI e → q_value Q = vl B a (if e - a ≤ 3 then e - a else 3) → (∀ i, a + i < e → ¬ B (a + i) < 48 ∧ ¬ 57 < B (a + i)) → ∃ (e' : Nat) (Q' : QT), e ≤ e' ∧ e' ≤ z ∧ fX3_readToken_L111 fu (B, nI z, nI a, nI e, 2) = some (B, nI z, nI a, nI e', 2) ∧ fX5_next_L159 fu (eM n c k w l d f wm hr b ch sd P Q) = some (eM n c k w l d f wm hr b ch sd P Q') ∧ q_to Q' = nI e' ∧ q_from Q' = nI a ∧ q_ahead Q' = q_ahead Q ∧ (q_token Q' = if e' - a ≤ 3 then 48 else 120) ∧ q_value Q' = vl B a (if e' - a ≤ 3 then e' - a else 3) ∧ (∀ i, a + i < e' → ¬ B (a + i) < 48 ∧ ¬ 57 < B (a + i)) := by
  intro r
  have fin : ∀ (e : Nat) (Q : QT), e ≤ z → a < e → q_from Q = nI a → q_to Q = nI e → fX5_next_j235 (eM n c k w l d f wm hr b ch sd P Q) = some (eM n c k w l d f wm hr b ch sd P (qs_token Q (if e - a ≤ 3 then 48 else 120))) := by
    intro e Q he hae h1 h2
    unfold fX5_next_j235 fX5_next_j256
    rw [f_to, f_fr, h1, h2, show nI e - nI a = nI (e - a) from pk_sub (by omega), u_if (show nI (e - a) ≤ (3 : Int32) ↔ e - a ≤ 3 from nI_leI (a := e - a) (b := 3) (by omega) (by omega))]
    simp only [bs, fs_tok]
    by_cases q : e - a ≤ 3
    · rw [if_pos q, if_pos q]
    · rw [if_neg q, if_neg q]
  induction r with
  | zero =>
    intro e fu Q e1 hf hae h1 h2 h3 h4
    obtain rfl : e = z := by omega
    cases fu with
    | zero => omega
    | succ fu =>
      refine ⟨e, qs_token Q (if e - a ≤ 3 then 48 else 120), Nat.le_refl _, Nat.le_refl _, ?_, ?_, h2, h1, rfl, rfl, h3, h4⟩
      · unfold fX3_readToken_L111
        rw [tg_z, tg_a, if_pos (nI_le (Nat.le_refl _) (by omega))]
      · unfold fX5_next_L159
        rw [f_taped, f_to, hT, h2, if_pos (nI_le (Nat.le_refl _) (by omega)), fin e Q (Nat.le_refl _) hae h1 h2]
  | succ r ih =>
    intro e fu Q e1 hf hae h1 h2 h3 h4
    cases fu with
    | zero => omega
    | succ fu =>
      have stop : (∃ y, fX3_sortOf (p_tape P e) = some y ∧ ¬ y = 2) → fX5_isDigit (p_tape P e) = some 0 → ∃ (e' : Nat) (Q' : QT), e ≤ e' ∧ e' ≤ z ∧ fX3_readToken_L111 (fu + 1) (B, nI z, nI a, nI e, 2) = some (B, nI z, nI a, nI e', 2) ∧ fX5_next_L159 (fu + 1) (eM n c k w l d f wm hr b ch sd P Q) = some (eM n c k w l d f wm hr b ch sd P Q') ∧ q_to Q' = nI e' ∧ q_from Q' = nI a ∧ q_ahead Q' = q_ahead Q ∧ (q_token Q' = if e' - a ≤ 3 then 48 else 120) ∧ q_value Q' = vl B a (if e' - a ≤ 3 then e' - a else 3) ∧ (∀ i, a + i < e' → ¬ B (a + i) < 48 ∧ ¬ 57 < B (a + i)) := by
        intro g1 g2
        obtain ⟨y, g1, g3⟩ := g1
        refine ⟨e, qs_token Q (if e - a ≤ 3 then 48 else 120), Nat.le_refl _, by omega, ?_, ?_, h2, h1, rfl, rfl, h3, h4⟩
        · unfold fX3_readToken_L111
          rw [tg_z, tg_a, tg_b, tg_t, if_neg (nI_ge (show e < z by omega) (by omega)), u_gd (by omega) (by omega), u_ix (by omega), hB e (by omega), g1]
          simp only [bs, if_neg g3]
        · unfold fX5_next_L159
          rw [f_taped, f_to, f_tape, hT, h2, if_neg (nI_ge (show e < z by omega) (by omega)), u_gd (by omega) (by omega), u_ix (by omega), g2]
          simp only [bs, ↓reduceIte]
          exact fin e Q (by omega) hae h1 h2
      rcases sort_cases (p_tape P e) with ⟨a1, a2⟩ | ⟨a1, a2, a3, a4, a5⟩ | ⟨a1, a2, a3, -⟩ | ⟨a1, a2, a3, -⟩
      · refine stop ⟨1, a1, by decide⟩ ?_
        unfold fX5_isLetter at a2
        unfold fX5_isDigit
        by_cases g : p_tape P e < 97
        · rw [if_pos g] at a2
          exact absurd a2 (by decide)
        · rw [if_neg (show ¬ p_tape P e < 48 from fun y => g (by
            apply Int32.lt_iff_toInt_lt.mpr
            have y1 := Int32.lt_iff_toInt_lt.mp y
            rw [show (48 : Int32).toInt = 48 by decide] at y1
            rw [show (97 : Int32).toInt = 97 by decide]
            omega)), if_pos (show 57 < p_tape P e by
            apply Int32.lt_iff_toInt_lt.mpr
            have y1 : ¬ (p_tape P e).toInt < (97 : Int32).toInt := fun y => g (Int32.lt_iff_toInt_lt.mpr y)
            rw [show (97 : Int32).toInt = 97 by decide] at y1
            rw [show (57 : Int32).toInt = 57 by decide]
            omega)]
      · have dg : ∀ i, a + i < e + 1 → ¬ B (a + i) < 48 ∧ ¬ 57 < B (a + i) := fun i hi => by
          by_cases y : a + i = e
          · rw [y, hB e (by omega)]
            exact ⟨a4, a5⟩
          · exact h4 i (by omega)
        by_cases q : e - a < 3
        · have ev : (10 : Int32) * q_value Q + p_tape P e - 48 = vl B a (if e + 1 - a ≤ 3 then e + 1 - a else 3) := by
            rw [if_pos (show e + 1 - a ≤ 3 by omega), show e + 1 - a = (e - a) + 1 by omega, vl, h3, if_pos (show e - a ≤ 3 by omega), show a + (e - a) = e by omega, hB e (by omega)]
          obtain ⟨e', Q', b1, b2, b3, b4, b5, b6, b7, b8, b9, b10⟩ := ih (e + 1) fu (qs_to (qs_value Q ((10 : Int32) * q_value Q + p_tape P e - 48)) (nI (e + 1))) (by omega) (by omega) (by omega) h1 rfl ev dg
          refine ⟨e', Q', by omega, b2, ?_, ?_, b5, b6, b7, b8, b9, b10⟩
          · unfold fX3_readToken_L111
            rw [tg_z, tg_a, tg_b, tg_t, if_neg (nI_ge (show e < z by omega) (by omega)), u_gd (by omega) (by omega), u_ix (by omega), hB e (by omega), a1]
            simp only [bs, ↓reduceIte, tp_a, nI_1]
            exact b3
          · unfold fX5_next_L159 fX5_next_j222
            rw [f_taped, f_to, f_tape, f_fr, f_val, hT, h1, h2, if_neg (nI_ge (show e < z by omega) (by omega)), u_gd (by omega) (by omega), u_ix (by omega), a3]
            simp only [bs, one0, ↓reduceIte]
            rw [show nI e - nI a = nI (e - a) from pk_sub (by omega), if_neg (show ¬ (3 : Int32) ≤ nI (e - a) from nI_ge (a := e - a) (b := 3) (by omega) (by omega)), u_gd (by omega) (by omega)]
            simp only [bs, fs_val, f_to, show q_to (qs_value Q ((10 : Int32) * q_value Q + p_tape P e - 48)) = nI e from h2, nI_1, fs_to]
            exact b4
        · have ev : q_value Q = vl B a (if e + 1 - a ≤ 3 then e + 1 - a else 3) := by
            rw [if_neg (show ¬ e + 1 - a ≤ 3 by omega), h3]
            by_cases y : e - a ≤ 3
            · rw [if_pos y, show e - a = 3 by omega]
            · rw [if_neg y]
          obtain ⟨e', Q', b1, b2, b3, b4, b5, b6, b7, b8, b9, b10⟩ := ih (e + 1) fu (qs_to Q (nI (e + 1))) (by omega) (by omega) (by omega) h1 rfl ev dg
          refine ⟨e', Q', by omega, b2, ?_, ?_, b5, b6, b7, b8, b9, b10⟩
          · unfold fX3_readToken_L111
            rw [tg_z, tg_a, tg_b, tg_t, if_neg (nI_ge (show e < z by omega) (by omega)), u_gd (by omega) (by omega), u_ix (by omega), hB e (by omega), a1]
            simp only [bs, ↓reduceIte, tp_a, nI_1]
            exact b3
          · unfold fX5_next_L159 fX5_next_j222
            rw [f_taped, f_to, f_tape, f_fr, f_val, hT, h1, h2, if_neg (nI_ge (show e < z by omega) (by omega)), u_gd (by omega) (by omega), u_ix (by omega), a3]
            simp only [bs, one0, ↓reduceIte]
            rw [show nI e - nI a = nI (e - a) from pk_sub (by omega), if_pos (show (3 : Int32) ≤ nI (e - a) from nI_le (a := 3) (b := e - a) (by omega) (by omega))]
            simp only [bs, nI_1, fs_to]
            exact b4
      · exact stop ⟨3, a1, by decide⟩ a3
      · exact stop ⟨4, a1, by decide⟩ a3
theorem lex_j (hB : ∀ i, i < 250 → B i = p_tape P i) (hz : z ≤ 250) (hT : p_taped P = nI z) {a : Nat} {s0 t0 : Int32} (ha : a ≤ z) (hQ : q_from Q = nI a) : ∃ (e' : Nat) (tk : Int32) (Q' : QT), fX3_readToken_j38 (B, nI z, s0, nI a, t0) = some (B, nI z, nI a, nI e', tk) ∧ fX5_next_j46 (eM n c k w l d f wm hr b ch sd P Q) = some (eM n c k w l d f wm hr b ch sd P Q') ∧ TM B z a e' tk Q' (q_ahead Q) := by
  unfold fX3_readToken_j38 fX5_next_j46 fX3_readToken_j74
  simp only [bs, tg_z, tg_s, tg_a, tg_b, tg_t, tp_s, tp_t, f_fr, hQ, fs_to, f_taped, hT, f_to, f_tape]
  by_cases h0 : a = z
  · subst h0
    rw [if_pos (nI_le (Nat.le_refl _) (by omega))]
    simp only [show q_from (qs_to Q (nI a)) = nI a from hQ, ↓reduceIte, fs_tok]
    exact ⟨a, 0, _, rfl, rfl, hQ, rfl, Nat.le_refl _, Nat.le_refl _, rfl, Or.inl ⟨rfl, rfl⟩⟩
  · rw [if_neg (nI_ge (show a < z by omega) (by omega))]
    simp only [show q_from (qs_to Q (nI a)) = nI a from hQ, show q_to (qs_to Q (nI a)) = nI a from rfl]
    rw [if_neg (show ¬ nI a = nI z from fun y => h0 ((nI_eq (by omega) (by omega)).mp y)), u_gd (by omega) (by omega), u_ix (by omega), hB a (by omega), u_gd (by omega) (by omega), nI_1]
    rcases sort_cases (p_tape P a) with ⟨a1, a2⟩ | ⟨a1, a2, a3, a4, a5⟩ | ⟨a1, a2, a3, a4⟩ | ⟨a1, a2, a3, a4⟩
    · rw [a1, a2]
      simp only [bs, one0, ↓reduceIte, tp_a]
      obtain ⟨e', Q', b1, b2, b3, b4, b5, b6, b7, b8⟩ := lex_w (n := n) (c := c) (k := k) (w := w) (l := l) (d := d) (f := f) (wm := wm) (hr := hr) (b := b) (ch := ch) (sd := sd) (a := a) hB hz hT (z - (a + 1)) (a + 1) FU (qs_to (qs_to Q (nI a)) (nI (a + 1))) (by omega) (by show z - (a + 1) < 1100; omega) rfl
      refine ⟨e', 1, Q', b3, b4, b6.trans hQ, b5, by omega, b2, b7, Or.inr (Or.inl ⟨rfl, b8, by omega⟩)⟩
    · rw [a1, a2, a3]
      simp only [bs, one0, i20, i21, ↓reduceIte, tp_a, fs_val]
      have dg : ∀ i, a + i < a + 1 → ¬ B (a + i) < 48 ∧ ¬ 57 < B (a + i) := fun i hi => by
        rw [show a + i = a by omega, hB a (by omega)]
        exact ⟨a4, a5⟩
      have ev : p_tape P a - 48 = vl B a (if a + 1 - a ≤ 3 then a + 1 - a else 3) := by
        rw [if_pos (show a + 1 - a ≤ 3 by omega), show a + 1 - a = 0 + 1 by omega, vl, show vl B a 0 = 0 from rfl, Nat.add_zero, hB a (by omega), show (10 : Int32) * 0 = 0 by decide, Int32.zero_add]
      obtain ⟨e', Q', b1, b2, b3, b4, b5, b6, b7, b8, b9, b10⟩ := lex_d (n := n) (c := c) (k := k) (w := w) (l := l) (d := d) (f := f) (wm := wm) (hr := hr) (b := b) (ch := ch) (sd := sd) (a := a) hB hz hT (z - (a + 1)) (a + 1) FU (qs_value (qs_to (qs_to Q (nI a)) (nI (a + 1))) (p_tape P a - 48)) (by omega) (by show z - (a + 1) < 1100; omega) (by omega) hQ rfl ev dg
      refine ⟨e', 2, Q', b3, b4, b6, b5, by omega, b2, b7, Or.inr (Or.inr (Or.inl ⟨rfl, by omega, ?_, b8⟩))⟩
      obtain ⟨v, hv, e2⟩ := vl_num (B := B) (a := a) (j := if e' - a ≤ 3 then e' - a else 3) (by split <;> omega) (fun i hi => b10 i (by
        by_cases q : e' - a ≤ 3
        · rw [if_pos q] at hi
          omega
        · rw [if_neg q] at hi
          omega))
      refine ⟨v, ?_, b9.trans e2, ?_⟩
      · have : 10 ^ (if e' - a ≤ 3 then e' - a else 3) ≤ 10 ^ 3 := Nat.pow_le_pow_right (by decide) (by split <;> omega)
        have e3 : (10 : Nat) ^ 3 = 1000 := rfl
        omega
      · rw [tv_eq hz (by omega) b2, e2]
    · rw [a1, a2, a3, if_pos a4]
      unfold fX5_next_j276
      simp only [bs, ↓reduceIte, tp_a, fs_tok]
      simp (decide := true) only [↓reduceIte]
      exact ⟨a + 1, 3, _, rfl, rfl, hQ, rfl, by omega, by omega, rfl, Or.inr (Or.inr (Or.inr (Or.inl ⟨rfl, rfl, by omega⟩)))⟩
    · rw [a1, a2, a3, if_neg a4]
      unfold fX5_next_j276
      simp only [bs, ↓reduceIte, tp_a, fs_tok]
      simp (decide := true) only [↓reduceIte]
      exact ⟨a + 1, 4, _, rfl, rfl, hQ, rfl, by omega, by omega, rfl, Or.inr (Or.inr (Or.inr (Or.inr ⟨rfl, rfl, by omega⟩)))⟩
/-- the next token -/
theorem lex (hB : ∀ i, i < 250 → B i = p_tape P i) (hz : z ≤ 250) (hT : p_taped P = nI z) {e : Nat} {s0 t0 : Int32} (he : e ≤ z) (hQ : q_to Q = nI e) : ∃ (a' e' : Nat) (tk : Int32) (Q' : QT), e ≤ a' ∧ fX3_readToken (B, nI z, s0, nI e, t0) = some (B, nI z, nI a', nI e', tk) ∧ fX5_next (eM n c k w l d f wm hr b ch sd P Q) = some (eM n c k w l d f wm hr b ch sd P Q') ∧ TM B z a' e' tk Q' (q_ahead Q) := by
  have q : ∀ (r p fu fu2 : Nat) (Q : QT), p + r = z → r < fu → r < fu2 → q_from Q = nI p → ∃ (a' e' : Nat) (tk : Int32) (Q' : QT), p ≤ a' ∧ fX3_readToken_L0 fu (B, nI z, s0, nI p, t0) = some (B, nI z, nI a', nI e', tk) ∧ fX5_next_L8 fu2 (eM n c k w l d f wm hr b ch sd P Q) = some (eM n c k w l d f wm hr b ch sd P Q') ∧ TM B z a' e' tk Q' (q_ahead Q) := by
    intro r
    induction r with
    | zero =>
      intro p fu fu2 Q e1 hf hf2 hp
      obtain rfl : p = z := by omega
      cases fu with
      | zero => omega
      | succ fu =>
        cases fu2 with
        | zero => omega
        | succ fu2 =>
          unfold fX3_readToken_L0 fX5_next_L8
          rw [tg_z, tg_a, f_taped, f_fr, hT, hp, if_pos (nI_le (Nat.le_refl _) (by omega)), if_pos (nI_le (Nat.le_refl _) (by omega))]
          obtain ⟨e', tk, Q', b1, b2, b3⟩ := lex_j (n := n) (c := c) (k := k) (w := w) (l := l) (d := d) (f := f) (wm := wm) (hr := hr) (b := b) (ch := ch) (sd := sd) (P := P) (Q := Q) (s0 := s0) (t0 := t0) hB hz hT (Nat.le_refl p) hp
          exact ⟨p, e', tk, Q', Nat.le_refl _, b1, b2, b3⟩
    | succ r ih =>
      intro p fu fu2 Q e1 hf hf2 hp
      cases fu with
      | zero => omega
      | succ fu =>
        cases fu2 with
        | zero => omega
        | succ fu2 =>
          unfold fX3_readToken_L0 fX5_next_L8
          rw [tg_z, tg_a, tg_b, f_taped, f_fr, f_tape, hT, hp, if_neg (nI_ge (show p < z by omega) (by omega)), if_neg (nI_ge (show p < z by omega) (by omega)), u_gd (by omega) (by omega), u_gd (by omega) (by omega), u_ix (by omega), hB p (by omega)]
          by_cases g : p_tape P p = 32
          · rw [if_pos g, if_pos g]
            simp only [bs, tp_a, nI_1, fs_fr]
            obtain ⟨a', e', tk, Q', b0, b1, b2, b3⟩ := ih (p + 1) fu fu2 (qs_from Q (nI (p + 1))) (by omega) (by omega) (by omega) rfl
            exact ⟨a', e', tk, Q', by omega, b1, b2, b3⟩
          · rw [if_neg g, if_neg g]
            obtain ⟨e', tk, Q', b1, b2, b3⟩ := lex_j (n := n) (c := c) (k := k) (w := w) (l := l) (d := d) (f := f) (wm := wm) (hr := hr) (b := b) (ch := ch) (sd := sd) (P := P) (Q := Q) (s0 := s0) (t0 := t0) hB hz hT (show p ≤ z by omega) hp
            exact ⟨p, e', tk, Q', Nat.le_refl _, b1, b2, b3⟩
  have := q (z - e) e (FU + 1) FU (qs_from Q (nI e)) (by omega) (by show z - e < 1101; omega) (by show z - e < 1100; omega) rfl
  unfold fX5_next
  rw [f_to, hQ, fs_fr]
  exact this
end L0
