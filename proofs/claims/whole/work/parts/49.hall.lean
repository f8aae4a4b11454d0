/-! ===== pure layer: the tape's statements and the call hall ===== -/
section L1
variable {n c : Nat} {k w l : Nat → Nat} {d f wm hr b ch : Nat} {sd : Int32} {P : PT} {Q : QT} {S : XT} {M : MT} {p1 p2 p3 p4 p5 : Int32} {B : Nat → Int32} {z : Nat} {o : Nat → Int32}
theorem nI_m1 {v : Nat} (h : v < 2 ^ 31) : ¬ nI v = cI (-1) := fun q => by
  have a := congrArg Int32.toInt q
  rw [nI_toInt h, show (cI (-1)).toInt = -1 by decide] at a
  omega
theorem num (hB : ∀ i, i < 250 → B i = p_tape P i) (hz : z ≤ 250) (hT : p_taped P = nI z) {e : Nat} {s0 t0 : Int32} (he : e ≤ z) (hQ : q_to Q = nI e) : ∃ (a' e' : Nat) (tk : Int32) (Q' : QT), e ≤ e' ∧ TM B z a' e' tk Q' (q_ahead Q) ∧ (((∀ q : Int32, fX3_readNumber q (B, nI z, s0, nI e, t0) = some ((0 : Int32), (B, nI z, nI a', nI e', tk))) ∧ (∀ q r : Int32, fX5_number q r (eM n c k w l d f wm hr b ch sd P Q) = some (cI (-1), eM n c k w l d f wm hr b ch sd P Q'))) ∨ (∃ v, v ≤ 999 ∧ fX3_tokenValue (B, nI z, nI a', nI e', tk) = some (nI v) ∧ (∀ q, q < 2 ^ 31 → fX3_readNumber (nI q) (B, nI z, s0, nI e, t0) = some (if q < v then (0 : Int32) else 1, (B, nI z, nI a', nI e', tk))) ∧ (∀ q r, q < 2 ^ 31 → r < 2 ^ 31 → fX5_number (nI q) (nI r) (eM n c k w l d f wm hr b ch sd P Q) = some (if v < q then cI (-1) else if r < v then cI (-1) else nI v, eM n c k w l d f wm hr b ch sd P Q')))) := by
  obtain ⟨a', e', tk, Q', h1, h2, h3, h4⟩ := lex (n := n) (c := c) (k := k) (w := w) (l := l) (d := d) (f := f) (wm := wm) (hr := hr) (b := b) (ch := ch) (sd := sd) (P := P) (Q := Q) (s0 := s0) (t0 := t0) hB hz hT he hQ
  refine ⟨a', e', tk, Q', by have := h4.2.2.1; omega, h4, ?_⟩
  unfold fX3_readNumber fX5_number
  rw [h2, h3]
  simp only [bs, tg_t, tg_a, tg_s, f_tok, f_val]
  obtain ⟨g1, g2, g3, g4, g5, g6⟩ := h4
  rcases g6 with ⟨a1, a2⟩ | ⟨a1, a2, a3⟩ | ⟨a1, a2, ⟨v, hv, a3, a4⟩, a5⟩ | ⟨a1, a2, a3⟩ | ⟨a1, a2, a3⟩
  · left
    subst a1
    rw [a2]
    exact ⟨fun q => by rw [if_neg (by decide)], fun q r => by rw [if_neg (by decide)]⟩
  · left
    subst a1
    rw [a2]
    exact ⟨fun q => by rw [if_neg (by decide)], fun q r => by rw [if_neg (by decide)]⟩
  · subst a1
    rw [show nI e' - nI a' = nI (e' - a') from pk_sub (by omega), a4, a5, a3]
    by_cases y : e' - a' ≤ 3
    · right
      rw [if_pos y]
      refine ⟨v, hv, rfl, fun q hq => ?_, fun q r hq hr => ?_⟩
      · rw [if_pos rfl, if_neg (show ¬ (3 : Int32) < nI (e' - a') from nI_nlt (a := 3) (b := e' - a') y (by omega))]
        simp only [bs]
        rw [u_if (nI_ltI (a := q) (b := v) hq (by omega))]
        by_cases y2 : q < v
        · rw [if_pos y2, if_pos y2]
        · rw [if_neg y2, if_neg y2]
      · unfold fX5_within
        rw [if_pos rfl, u_if (nI_ltI (a := v) (b := q) (by omega) hq), u_if (nI_ltI (a := r) (b := v) hr (by omega))]
        by_cases y1 : v < q
        · rw [if_pos y1, if_pos y1]
          simp only [bs, ↓reduceIte]
        · rw [if_neg y1, if_neg y1]
          by_cases y2 : r < v
          · rw [if_pos y2, if_pos y2]
            simp only [bs, ↓reduceIte]
          · rw [if_neg y2, if_neg y2]
            simp only [bs, one0, ↓reduceIte]
    · left
      rw [if_neg y]
      refine ⟨fun q => ?_, fun q r => ?_⟩
      · rw [if_pos rfl, if_pos (show (3 : Int32) < nI (e' - a') from nI_lt (a := 3) (b := e' - a') (by omega) (by omega))]
      · rw [if_neg (by decide)]
  · left
    subst a1
    rw [a2]
    exact ⟨fun q => by rw [if_neg (by decide)], fun q r => by rw [if_neg (by decide)]⟩
  · left
    subst a1
    rw [a2]
    exact ⟨fun q => by rw [if_neg (by decide)], fun q r => by rw [if_neg (by decide)]⟩
theorem len6 : ∀ i, i < 9 → sLen.getD i 0 ≤ 6 := by decide
theorem isw (hB : ∀ i, i < 250 → B i = p_tape P i) (hz : z ≤ 250) {a e : Nat} {tk : Int32} (ha : a ≤ e) (he : e ≤ z) (h1 : q_from Q = nI a) (h2 : q_to Q = nI e) (h3 : q_token Q = 119) {i : Nat} (hi : i < 9) : ∃ y : Int32, (y = 0 ∨ y = 1) ∧ fX3_isWord i (B, nI z, nI a, nI e, tk) = some y ∧ fX5_isWord i (eM n c k w l d f wm hr b ch sd P Q) = some y := by
  have hl := len6 i hi
  unfold fX3_isWord fX5_isWord
  rw [tg_a, tg_s, f_tok, f_to, f_fr, h1, h2, h3, if_pos rfl, show nI e - nI a = nI (e - a) from pk_sub (by omega)]
  by_cases q : e - a = sLen.getD i 0
  · rw [if_pos (show nI (e - a) = sLn i by rw [q]; rfl), if_pos (show nI (e - a) = sLn i by rw [q]; rfl)]
    have lp : ∀ (r j fu fu2 : Nat), j + r = sLen.getD i 0 → r < fu → r < fu2 → ∃ y : Int32, (y = 0 ∨ y = 1) ∧ fX3_isWord_L20 i (B, nI z, nI a, nI e, tk) fu (nI j) = some y ∧ fX5_isWord_L29 i (eM n c k w l d f wm hr b ch sd P Q) fu2 (nI j) = some y := by
      intro r
      induction r with
      | zero =>
        intro j fu fu2 e1 hf hf2
        cases fu with
        | zero => omega
        | succ fu =>
          cases fu2 with
          | zero => omega
          | succ fu2 =>
            refine ⟨1, Or.inr rfl, ?_, ?_⟩
            · unfold fX3_isWord_L20
              rw [if_pos (show sLn i ≤ nI j from nI_le (a := sLen.getD i 0) (b := j) (by omega) (by omega))]
            · unfold fX5_isWord_L29
              rw [if_pos (show sLn i ≤ nI j from nI_le (a := sLen.getD i 0) (b := j) (by omega) (by omega))]
      | succ r ih =>
        intro j fu fu2 e1 hf hf2
        cases fu with
        | zero => omega
        | succ fu =>
          cases fu2 with
          | zero => omega
          | succ fu2 =>
            unfold fX3_isWord_L20 fX5_isWord_L29
            rw [tg_s, tg_b, f_fr, f_tape, h1, nI_add, if_neg (show ¬ sLn i ≤ nI j from nI_ge (a := j) (b := sLen.getD i 0) (by omega) (by omega)), if_neg (show ¬ sLn i ≤ nI j from nI_ge (a := j) (b := sLen.getD i 0) (by omega) (by omega)), if_neg (show ¬ (250 : Int32) ≤ nI (a + j) from nI_ge (a := a + j) (b := 250) (by omega) (by omega)), u_gd (show a + j < 250 by omega) (by omega), u_gd (show a + j < 250 by omega) (by omega), u_gd (show j < sLen.getD i 0 by omega) (by omega), u_gd (show j < sLen.getD i 0 by omega) (by omega), u_ix (show a + j < 2 ^ 31 by omega), hB (a + j) (by omega)]
            by_cases g : p_tape P (a + j) = sCh i (ix (nI j))
            · rw [if_pos g, if_pos g, nI_1]
              exact ih (j + 1) fu fu2 (by omega) (by omega) (by omega)
            · rw [if_neg g, if_neg g]
              exact ⟨0, Or.inl rfl, rfl, rfl⟩
    exact lp _ 0 FU FU (Nat.zero_add _) (by show sLen.getD i 0 < 1100; omega) (by show sLen.getD i 0 < 1100; omega)
  · have ne : ¬ nI (e - a) = sLn i := fun y => q ((nI_eq (a := e - a) (b := sLen.getD i 0) (by omega) (by omega)).mp y)
    rw [if_neg ne, if_neg ne]
    exact ⟨0, Or.inl rfl, rfl, rfl⟩
/-- a statement read by both -/
def SO (B : Nat → Int32) (z e : Nat) (o : Nat → Int32) (P : PT) (sd : Int32) (c : Nat) (ox : Option (Int32 × TapeT × HallT)) (om : Option (Int32 × MT)) : Prop := ∃ (r : Int32) (n' c' : Nat) (k' w' l' : Nat → Nat) (d' f' wm' hr' b' ch' : Nat) (a' e' : Nat) (tk : Int32) (Q' : QT), ox = some (r, (B, nI z, nI a', nI e', tk), eH n' c' k' w' l' d' f' wm' hr' b' ch' sd) ∧ om = some (r, eM n' c' k' w' l' d' f' wm' hr' b' ch' sd P Q') ∧ (r = 0 ∨ r = 1) ∧ TM B z a' e' tk Q' o ∧ e ≤ e' ∧ HI n' c' k' w' l' d' f' wm' hr' b' ch' ∧ c ≤ c'
theorem so_side (h : HI n c k w l d f wm hr b ch) (hB : ∀ i, i < 250 → B i = p_tape P i) (hz : z ≤ 250) (hT : p_taped P = nI z) {e : Nat} {s0 t0 : Int32} (he : e ≤ z) (hQ : q_to Q = nI e) : SO B z e (q_ahead Q) P sd c ((fX3_readSide (B, nI z, s0, nI e, t0) (eH n c k w l d f wm hr b ch sd)).bind fun q27 => gd (isb q27.1) (some (q27.1, q27.2.1, q27.2.2))) ((fX5_number (m_n (eM n c k w l d f wm hr b ch sd P Q)) (7 : Int32) (eM n c k w l d f wm hr b ch sd P Q)).bind fun q39 => (if q39.1 = (cI (-1)) then some ((0 : Int32), q39.2) else ((some (ms_n q39.2 q39.1)).bind fun w41 => some ((1 : Int32), w41)))) := by
  obtain ⟨hn6, hn7⟩ := h.hp.1
  obtain ⟨a', e', tk, Q', g1, g2, g3⟩ := num (n := n) (c := c) (k := k) (w := w) (l := l) (d := d) (f := f) (wm := wm) (hr := hr) (b := b) (ch := ch) (sd := sd) (P := P) (Q := Q) (s0 := s0) (t0 := t0) hB hz hT he hQ
  unfold fX3_readSide fX1_maySide
  rw [f_n]
  rcases g3 with ⟨x1, x2⟩ | ⟨v, hv, x0, x1, x2⟩
  · rw [x1, x2]
    simp only [bs, ↓reduceIte, gb0]
    exact ⟨0, n, c, k, w, l, d, f, wm, hr, b, ch, a', e', tk, Q', rfl, rfl, Or.inl rfl, g2, g1, h, Nat.le_refl _⟩
  · rw [show fX3_readNumber (7 : Int32) (B, nI z, s0, nI e, t0) = _ from x1 7 (by omega), show fX5_number (nI n) (7 : Int32) (eM n c k w l d f wm hr b ch sd P Q) = _ from x2 n 7 (by omega) (by omega)]
    simp only [bs]
    by_cases y1 : 7 < v
    · rw [if_pos y1, if_pos y1, show (if v < n then cI (-1) else cI (-1)) = cI (-1) by split <;> rfl]
      simp only [bs, ↓reduceIte, gb0]
      exact ⟨0, n, c, k, w, l, d, f, wm, hr, b, ch, a', e', tk, Q', rfl, rfl, Or.inl rfl, g2, g1, h, Nat.le_refl _⟩
    · rw [if_neg y1, if_neg y1, if_neg one0, x0]
      simp only [bs, e_side, e_count, e_kind, e_weight, e_cell, e_doors, e_fan, e_warm, e_hour, e_beam, e_chance, e_seed]
      rw [u_if (nI_ltI (a := v) (b := n) (by omega) (by omega)), u_if (show nI v < (3 : Int32) ↔ v < 3 from nI_ltI (a := v) (b := 3) (by omega) (by omega)), u_if (show (7 : Int32) < nI v ↔ 7 < v from nI_ltI (a := 7) (b := v) (by omega) (by omega)), if_neg y1]
      by_cases y2 : v < n
      · rw [if_pos y2, if_pos y2, show (if v < 3 then some (0 : Int32) else some (0 : Int32)) = some 0 by split <;> rfl]
        simp only [bs, ↓reduceIte, gb0]
        exact ⟨0, n, c, k, w, l, d, f, wm, hr, b, ch, a', e', tk, Q', rfl, rfl, Or.inl rfl, g2, g1, h, Nat.le_refl _⟩
      · rw [if_neg y2, if_neg y2, if_neg (show ¬ v < 3 by omega), if_neg (nI_m1 (show v < 2 ^ 31 by omega))]
        simp only [bs, one0, ↓reduceIte, gb1, es_side, fs_n]
        have h' : HI v c k w l d f wm hr b ch := HI.mk' ⟨⟨by omega, by omega⟩, h.hp.2⟩ h.hc (fun i hi => ⟨(h.m hi).1, (h.m hi).2.1, by
          obtain ⟨a, b⟩ := (h.m hi).2.2
          exact ⟨by omega, by omega⟩⟩) h.hch (fun i hi => h.z hi)
        exact ⟨1, v, c, k, w, l, d, f, wm, hr, b, ch, a', e', tk, Q', rfl, rfl, Or.inr rfl, g2, g1, h', Nat.le_refl _⟩
theorem so_door {ov : Int32} (h : HI n c k w l d f wm hr b ch) (hB : ∀ i, i < 250 → B i = p_tape P i) (hz : z ≤ 250) (hT : p_taped P = nI z) {e : Nat} {s0 t0 : Int32} (he : e ≤ z) (hQ : q_to Q = nI e) : SO B z e (q_ahead Q) P sd c ((fX3_readDoor ov (B, nI z, s0, nI e, t0) (eH n c k w l d f wm hr b ch sd)).bind fun q19 => gd (isb q19.1) (some (q19.1, q19.2.1, q19.2.2))) (fX5_statement_j140 ov (eM n c k w l d f wm hr b ch sd P Q)) := by
  obtain ⟨a', e', tk, Q', g1, g2, g3⟩ := num (n := n) (c := c) (k := k) (w := w) (l := l) (d := d) (f := f) (wm := wm) (hr := hr) (b := b) (ch := ch) (sd := sd) (P := P) (Q := Q) (s0 := s0) (t0 := t0) hB hz hT he hQ
  unfold fX3_readDoor fX5_statement_j140
  rcases g3 with ⟨x1, x2⟩ | ⟨v, hv, x0, x1, x2⟩
  · rw [x1, x2]
    simp only [bs, ↓reduceIte, gb0]
    exact ⟨0, n, c, k, w, l, d, f, wm, hr, b, ch, a', e', tk, Q', rfl, rfl, Or.inl rfl, g2, g1, h, Nat.le_refl _⟩
  · rw [show fX3_readNumber (3 : Int32) (B, nI z, s0, nI e, t0) = _ from x1 3 (by omega), show fX5_number (0 : Int32) (3 : Int32) (eM n c k w l d f wm hr b ch sd P Q) = _ from x2 0 3 (by omega) (by omega)]
    simp only [bs]
    rw [if_neg (Nat.not_lt_zero v)]
    by_cases y1 : 3 < v
    · rw [if_pos y1, if_pos y1]
      simp only [bs, ↓reduceIte, gb0]
      exact ⟨0, n, c, k, w, l, d, f, wm, hr, b, ch, a', e', tk, Q', rfl, rfl, Or.inl rfl, g2, g1, h, Nat.le_refl _⟩
    · rw [if_neg y1, if_neg y1, if_neg one0, x0, if_neg (nI_m1 (show v < 2 ^ 31 by omega)), m_op h.hp.2.1 (by omega)]
      simp only [bs]
      rw [x_sd h.hp.2.1 (by omega)]
      simp only [bs, gb1]
      exact ⟨1, n, c, k, w, l, _, f, wm, hr, b, ch, a', e', tk, Q', rfl, rfl, Or.inr rfl, g2, g1, h.par ⟨h.hp.1, dset_lt h.hp.2.1 (by omega), h.hp.2.2⟩, Nat.le_refl _⟩
theorem so_mote (h : HI n c k w l d f wm hr b ch) (hB : ∀ i, i < 250 → B i = p_tape P i) (hz : z ≤ 250) (hT : p_taped P = nI z) {a e : Nat} {tk : Int32} (tm : TM B z a e tk Q o) : SO B z e o P sd c ((fX1_hasRoom (eH n c k w l d f wm hr b ch sd)).bind fun q23 => (if q23 = 0 then some ((0 : Int32), (B, nI z, nI a, nI e, tk), (eH n c k w l d f wm hr b ch sd)) else ((fX3_readMote (B, nI z, nI a, nI e, tk) (eH n c k w l d f wm hr b ch sd)).bind fun q25 => (if q25.1 = 0 then some ((0 : Int32), q25.2.1, q25.2.2) else some ((1 : Int32), q25.2.1, q25.2.2))))) (if (m_motes (eM n c k w l d f wm hr b ch sd P Q)) = (10 : Int32) then some ((0 : Int32), (eM n c k w l d f wm hr b ch sd P Q)) else ((fX5_number (0 : Int32) (5 : Int32) (eM n c k w l d f wm hr b ch sd P Q)).bind fun q29 => (if q29.1 = (cI (-1)) then fX5_statement_j77 q29.1 (cI (-1)) q29.2 else ((fX5_number (0 : Int32) (9 : Int32) q29.2).bind fun q37 => fX5_statement_j77 q29.1 q37.1 q37.2)))) := by
  have hc := h.hc
  obtain ⟨hn6, hn7⟩ := h.hp.1
  unfold fX1_hasRoom fX3_readMote
  rw [f_motes, e_count, u_if (show (10 : Int32) ≤ nI c ↔ 10 ≤ c from nI_leI (a := 10) (b := c) (by omega) (by omega)), u_if (show nI c = (10 : Int32) ↔ c = 10 from nI_eq (a := c) (b := 10) (by omega) (by omega))]
  by_cases y0 : c = 10
  · rw [if_pos y0, if_pos (show 10 ≤ c by omega)]
    simp only [bs, ↓reduceIte]
    exact ⟨0, n, c, k, w, l, d, f, wm, hr, b, ch, a, e, tk, Q, rfl, rfl, Or.inl rfl, tm, Nat.le_refl _, h, Nat.le_refl _⟩
  rw [if_neg y0, if_neg (show ¬ 10 ≤ c by omega)]
  simp only [bs, one0, ↓reduceIte]
  have bad : ∀ (a' e' : Nat) (tk : Int32) (Q' : QT), e ≤ e' → TM B z a' e' tk Q' o → SO B z e o P sd c (some ((0 : Int32), (B, nI z, nI a', nI e', tk), (eH n c k w l d f wm hr b ch sd))) (some ((0 : Int32), eM n c k w l d f wm hr b ch sd P Q')) := fun a' e' tk Q' q1 q2 => ⟨0, n, c, k, w, l, d, f, wm, hr, b, ch, a', e', tk, Q', rfl, rfl, Or.inl rfl, q2, q1, h, Nat.le_refl _⟩
  have j1 : ∀ (u : Int32) (M : MT), fX5_statement_j77 u (cI (-1)) M = some ((0 : Int32), M) := fun u M => by
    unfold fX5_statement_j77 fX5_statement_j94
    rw [if_pos rfl, if_pos rfl]
  obtain ⟨t1, t2, t3, t4, t5, -⟩ := tm
  obtain ⟨a1, e1, tk1, Q1, g1, g2, g3⟩ := num (n := n) (c := c) (k := k) (w := w) (l := l) (d := d) (f := f) (wm := wm) (hr := hr) (b := b) (ch := ch) (sd := sd) (P := P) (Q := Q) (s0 := nI a) (t0 := tk) hB hz hT t4 t2
  rw [t5] at g2
  rcases g3 with ⟨x1, x2⟩ | ⟨v, hv, x0, x1, x2⟩
  · rw [x1, x2]
    simp only [bs, ↓reduceIte, j1]
    exact bad _ _ _ _ g1 g2
  rw [show fX3_readNumber (5 : Int32) (B, nI z, nI a, nI e, tk) = _ from x1 5 (by omega), show fX5_number (0 : Int32) (5 : Int32) (eM n c k w l d f wm hr b ch sd P Q) = _ from x2 0 5 (by omega) (by omega)]
  simp only [bs]
  rw [if_neg (Nat.not_lt_zero v)]
  by_cases y1 : 5 < v
  · rw [if_pos y1, if_pos y1]
    simp only [bs, ↓reduceIte, j1]
    exact bad _ _ _ _ g1 g2
  rw [if_neg y1, if_neg y1, if_neg one0, x0, if_neg (nI_m1 (show v < 2 ^ 31 by omega))]
  simp only [bs]
  obtain ⟨a2, e2, tk2, Q2, k1, k2, k3⟩ := num (n := n) (c := c) (k := k) (w := w) (l := l) (d := d) (f := f) (wm := wm) (hr := hr) (b := b) (ch := ch) (sd := sd) (P := P) (Q := Q1) (s0 := nI a1) (t0 := tk1) hB hz hT g2.2.2.2.1 g2.2.1
  rw [g2.2.2.2.2.1] at k2
  rcases k3 with ⟨z1, z2⟩ | ⟨v2, hv2, z0, z1, z2⟩
  · rw [z1, z2]
    simp only [bs, ↓reduceIte, j1]
    exact bad _ _ _ _ (by omega) k2
  rw [show fX3_readNumber (9 : Int32) (B, nI z, nI a1, nI e1, tk1) = _ from z1 9 (by omega), show fX5_number (0 : Int32) (9 : Int32) (eM n c k w l d f wm hr b ch sd P Q1) = _ from z2 0 9 (by omega) (by omega)]
  simp only [bs]
  rw [if_neg (Nat.not_lt_zero v2)]
  by_cases y2 : 9 < v2
  · rw [if_pos y2, if_pos y2, j1]
    simp only [bs, ↓reduceIte]
    exact bad _ _ _ _ (by omega) k2
  rw [if_neg y2, if_neg y2, if_neg one0, z0]
  unfold fX5_statement_j77 fX5_statement_j94
  rw [if_neg (nI_m1 (show v2 < 2 ^ 31 by omega))]
  simp only [bs]
  obtain ⟨a3, e3, tk3, Q3, r1, r2, r3⟩ := num (n := n) (c := c) (k := k) (w := w) (l := l) (d := d) (f := f) (wm := wm) (hr := hr) (b := b) (ch := ch) (sd := sd) (P := P) (Q := Q2) (s0 := nI a2) (t0 := tk2) hB hz hT k2.2.2.2.1 k2.2.1
  rw [k2.2.2.2.2.1] at r2
  rcases r3 with ⟨q1, q2⟩ | ⟨v3, hv3, q0, q1, q2⟩
  · rw [q1, q2]
    simp only [bs, ↓reduceIte]
    exact bad _ _ _ _ (by omega) r2
  rw [show fX3_readNumber (999 : Int32) (B, nI z, nI a2, nI e2, tk2) = _ from q1 999 (by omega), show fX5_number (0 : Int32) (66 : Int32) (eM n c k w l d f wm hr b ch sd P Q2) = _ from q2 0 66 (by omega) (by omega)]
  simp only [bs]
  rw [if_neg (Nat.not_lt_zero v3), if_neg (show ¬ 999 < v3 by omega), if_neg one0, q0]
  simp only [bs]
  rcases cell_cases (n := n) (c := c) (k := k) (w := w) (l := l) (d := d) (f := f) (wm := wm) (hr := hr) (b := b) (ch := ch) (sd := sd) (P := P) (Q := Q3) (nI v3) hn6 hn7 with ⟨b1, b2⟩ | ⟨x, hx, ex, b1, b2⟩
  · rw [b1]
    by_cases y3 : 66 < v3
    · rw [if_pos y3]
      simp only [bs, ↓reduceIte]
      exact bad _ _ _ _ (by omega) r2
    · rw [if_neg y3, if_neg (nI_m1 (show v3 < 2 ^ 31 by omega)), b2]
      simp only [bs, ↓reduceIte]
      exact bad _ _ _ _ (by omega) r2
  · have hx' := isC_lt hn7 hx
    obtain rfl : v3 = x := (nI_eq (by omega) (by omega)).mp ex
    have y3 : ¬ 66 < v3 := by
      obtain ⟨u1, u2⟩ := hx
      omega
    rw [if_neg y3, if_neg (nI_m1 (show v3 < 2 ^ 31 by omega)), b1, b2]
    simp only [bs, one0, ↓reduceIte]
    rw [x_add (show c < 10 by omega), m_new (show c < 10 by omega)]
    simp only [bs, one0, ↓reduceIte]
    exact ⟨1, n, c + 1, _, _, _, d, f, wm, hr, b, ch, a3, e3, tk3, Q3, rfl, rfl, Or.inr rfl, r2, by omega, h.add (by omega) (by omega) (by omega) hx, by omega⟩
end L1
