/-! ===== pure layer: the call hall ===== -/
section L2
variable {n c : Nat} {k w l : Nat → Nat} {d f wm hr b ch : Nat} {sd : Int32} {P : PT} {Q : QT} {S : XT} {M : MT} {p1 p2 p3 p4 p5 : Int32} {B : Nat → Int32} {z : Nat} {o : Nat → Int32}
theorem so_key {J : Int32} {N : Nat} (h : HI n c k w l d f wm hr b ch) (hm : fX1_mostTold J = some (nI N)) (hh : fX5_highest J = some (nI N)) (hJ : ¬ J = cI (-1)) (hN : N < 2 ^ 31) (hi : inb J 5 = true) (hg : ∀ v, v ≤ N → ∃ f' wm' hr' b' ch' : Nat, HI n c k w l d f' wm' hr' b' ch' ∧ fX1_becomes J (nI v) (eH n c k w l d f wm hr b ch sd) = some (eH n c k w l d f' wm' hr' b' ch' sd) ∧ upd (wy f wm hr b ch) (ix J) (nI v) = wy f' wm' hr' b' ch') (hB : ∀ i, i < 250 → B i = p_tape P i) (hz : z ≤ 250) (hT : p_taped P = nI z) {e : Nat} {s0 t0 : Int32} (he : e ≤ z) (hQ : q_to Q = nI e) : SO B z e (q_ahead Q) P sd c ((fX1_mostTold J).bind fun q11 => ((fX3_readNumber q11 (B, nI z, s0, nI e, t0)).bind fun q13 => (if q13.1 = 0 then some ((0 : Int32), q13.2, (eH n c k w l d f wm hr b ch sd)) else ((fX3_tokenValue q13.2).bind fun q15 => ((fX1_becomes J q15 (eH n c k w l d f wm hr b ch sd)).bind fun q17 => some ((1 : Int32), q13.2, q17)))))) (fX5_statement_j228 J (eM n c k w l d f wm hr b ch sd P Q)) := by
  obtain ⟨a', e', tk, Q', g1, g2, g3⟩ := num (n := n) (c := c) (k := k) (w := w) (l := l) (d := d) (f := f) (wm := wm) (hr := hr) (b := b) (ch := ch) (sd := sd) (P := P) (Q := Q) (s0 := s0) (t0 := t0) hB hz hT he hQ
  unfold fX5_statement_j228
  rw [hm, hh, if_neg hJ]
  simp only [bs]
  rcases g3 with ⟨x1, x2⟩ | ⟨v, hv, x0, x1, x2⟩
  · rw [x1, x2]
    simp only [bs, ↓reduceIte]
    exact ⟨0, n, c, k, w, l, d, f, wm, hr, b, ch, a', e', tk, Q', rfl, rfl, Or.inl rfl, g2, g1, h, Nat.le_refl _⟩
  · rw [x1 N hN, show fX5_number (0 : Int32) (nI N) (eM n c k w l d f wm hr b ch sd P Q) = _ from x2 0 N (by omega) hN]
    simp only [bs]
    rw [if_neg (Nat.not_lt_zero v)]
    by_cases y1 : N < v
    · rw [if_pos y1, if_pos y1]
      simp only [↓reduceIte]
      exact ⟨0, n, c, k, w, l, d, f, wm, hr, b, ch, a', e', tk, Q', rfl, rfl, Or.inl rfl, g2, g1, h, Nat.le_refl _⟩
    · obtain ⟨f', wm', hr', b', ch', h', u1, u2⟩ := hg v (by omega)
      rw [if_neg y1, if_neg y1, if_neg one0, x0, if_neg (nI_m1 (show v < 2 ^ 31 by omega)), hi]
      simp only [bs, gt, f_ways]
      rw [u1, u2, fs_ways]
      exact ⟨1, n, c, k, w, l, d, f', wm', hr', b', ch', a', e', tk, Q', rfl, rfl, Or.inr rfl, g2, g1, h', Nat.le_refl _⟩
theorem m_isw0 {i : Nat} (h : ¬ q_token Q = 119) : fX5_isWord i (eM n c k w l d f wm hr b ch sd P Q) = some 0 := by
  unfold fX5_isWord
  rw [f_tok, if_neg h]
theorem m_st0 (h : ¬ q_token Q = 119) : fX5_statement (eM n c k w l d f wm hr b ch sd P Q) = some ((0 : Int32), (eM n c k w l d f wm hr b ch sd P Q)) := by
  unfold fX5_statement fX5_statement_j228
  simp only [m_isw0 h, bs, ↓reduceIte]
theorem stm (h : HI n c k w l d f wm hr b ch) (hB : ∀ i, i < 250 → B i = p_tape P i) (hz : z ≤ 250) (hT : p_taped P = nI z) {a e : Nat} (tm : TM B z a e 1 Q o) : SO B z e o P sd c (fX3_readStatement (B, nI z, nI a, nI e, 1) (eH n c k w l d f wm hr b ch sd)) (fX5_statement (eM n c k w l d f wm hr b ch sd P Q)) := by
  obtain ⟨hn, hd, hf, hw, hh, hb⟩ := h.hp
  have tm0 := tm
  obtain ⟨t1, t2, t3, t4, t5, t6⟩ := tm
  have t7 : q_token Q = 119 := by
    rcases t6 with ⟨q, -⟩ | ⟨-, q, -⟩ | ⟨q, -⟩ | ⟨q, -⟩ | ⟨q, -⟩
    · exact absurd q (by decide)
    · exact q
    · exact absurd q (by decide)
    · exact absurd q (by decide)
    · exact absurd q (by decide)
  have W : ∀ i, i < 9 → ∃ y : Int32, (y = 1 ∨ y = 0) ∧ fX3_isWord i (B, nI z, nI a, nI e, 1) = some y ∧ fX5_isWord i (eM n c k w l d f wm hr b ch sd P Q) = some y := fun i hi => by
    obtain ⟨y, u1, u2⟩ := isw (n := n) (c := c) (k := k) (w := w) (l := l) (d := d) (f := f) (wm := wm) (hr := hr) (b := b) (ch := ch) (sd := sd) (P := P) (Q := Q) (tk := 1) hB hz t3 t4 t1 t2 t7 hi
    exact ⟨y, u1.symm, u2⟩
  unfold fX3_readStatement fX5_statement
  obtain ⟨y0, v0, x0, m0⟩ := W 0 (by omega)
  rw [x0, m0]
  simp only [bs]
  rcases v0 with rfl | rfl
  · simp only [one0, ↓reduceIte]
    have := so_side (n := n) (c := c) (k := k) (w := w) (l := l) (d := d) (f := f) (wm := wm) (hr := hr) (b := b) (ch := ch) (sd := sd) (P := P) (Q := Q) (s0 := nI a) (t0 := 1) h hB hz hT t4 t2
    rw [t5] at this
    exact this
  simp only [↓reduceIte]
  obtain ⟨y1, v1, x1, m1⟩ := W 1 (by omega)
  rw [x1, m1]
  simp only [bs]
  rcases v1 with rfl | rfl
  · simp only [one0, ↓reduceIte]
    exact so_mote h hB hz hT tm0
  simp only [↓reduceIte]
  obtain ⟨y2, v2, x2, m2⟩ := W 2 (by omega)
  rw [x2, m2]
  simp only [bs]
  rcases v2 with rfl | rfl
  · simp only [one0, ↓reduceIte]
    have := so_door (n := n) (c := c) (k := k) (w := w) (l := l) (d := d) (f := f) (wm := wm) (hr := hr) (b := b) (ch := ch) (sd := sd) (P := P) (Q := Q) (ov := 1) (s0 := nI a) (t0 := 1) h hB hz hT t4 t2
    rw [t5] at this
    exact this
  simp only [↓reduceIte]
  obtain ⟨y3, v3, x3, m3⟩ := W 3 (by omega)
  rw [x3, m3]
  simp only [bs]
  rcases v3 with rfl | rfl
  · simp only [one0, ↓reduceIte]
    have := so_door (n := n) (c := c) (k := k) (w := w) (l := l) (d := d) (f := f) (wm := wm) (hr := hr) (b := b) (ch := ch) (sd := sd) (P := P) (Q := Q) (ov := 0) (s0 := nI a) (t0 := 1) h hB hz hT t4 t2
    rw [t5] at this
    exact this
  simp only [↓reduceIte]
  unfold fX3_toldWord
  obtain ⟨y4, v4, x4, m4⟩ := W 4 (by omega)
  rw [x4, m4]
  simp only [bs]
  rcases v4 with rfl | rfl
  · simp only [one0, ↓reduceIte, bs]
    rw [if_neg (show ¬ (0 : Int32) = cI (-1) by decide)]
    have := so_key (n := n) (c := c) (k := k) (w := w) (l := l) (d := d) (f := f) (wm := wm) (hr := hr) (b := b) (ch := ch) (sd := sd) (P := P) (Q := Q) (J := 0) (N := 4) (s0 := nI a) (t0 := 1) h (by decide) (by decide) (by decide) (by omega) (by decide) (fun v hv => ⟨v, wm, hr, b, ch, h.par ⟨hn, hd, hv, hw, hh, hb⟩, rfl, by rw [ix0, wy_s0]⟩) hB hz hT t4 t2
    rw [t5] at this
    exact this
  simp only [↓reduceIte]
  obtain ⟨y5, v5, x5, m5⟩ := W 5 (by omega)
  rw [x5, m5]
  simp only [bs]
  rcases v5 with rfl | rfl
  · simp only [one0, ↓reduceIte, bs]
    rw [if_neg (show ¬ (1 : Int32) = cI (-1) by decide)]
    have := so_key (n := n) (c := c) (k := k) (w := w) (l := l) (d := d) (f := f) (wm := wm) (hr := hr) (b := b) (ch := ch) (sd := sd) (P := P) (Q := Q) (J := 1) (N := 9) (s0 := nI a) (t0 := 1) h (by decide) (by decide) (by decide) (by omega) (by decide) (fun v hv => ⟨f, v, hr, b, ch, h.par ⟨hn, hd, hf, hv, hh, hb⟩, rfl, by rw [ix1, wy_s1]⟩) hB hz hT t4 t2
    rw [t5] at this
    exact this
  simp only [↓reduceIte]
  obtain ⟨y6, v6, x6, m6⟩ := W 6 (by omega)
  rw [x6, m6]
  simp only [bs]
  rcases v6 with rfl | rfl
  · simp only [one0, ↓reduceIte, bs]
    rw [if_neg (show ¬ (2 : Int32) = cI (-1) by decide)]
    have := so_key (n := n) (c := c) (k := k) (w := w) (l := l) (d := d) (f := f) (wm := wm) (hr := hr) (b := b) (ch := ch) (sd := sd) (P := P) (Q := Q) (J := 2) (N := 999) (s0 := nI a) (t0 := 1) h (by decide) (by decide) (by decide) (by omega) (by decide) (fun v hv => ⟨f, wm, v, b, ch, h.par ⟨hn, hd, hf, hw, hv, hb⟩, rfl, by rw [ix2, wy_s2]⟩) hB hz hT t4 t2
    rw [t5] at this
    exact this
  simp only [↓reduceIte]
  obtain ⟨y7, v7, x7, m7⟩ := W 7 (by omega)
  rw [x7, m7]
  simp only [bs]
  rcases v7 with rfl | rfl
  · simp only [one0, ↓reduceIte, bs]
    rw [if_neg (show ¬ (3 : Int32) = cI (-1) by decide)]
    have := so_key (n := n) (c := c) (k := k) (w := w) (l := l) (d := d) (f := f) (wm := wm) (hr := hr) (b := b) (ch := ch) (sd := sd) (P := P) (Q := Q) (J := 3) (N := 6) (s0 := nI a) (t0 := 1) h (by decide) (by decide) (by decide) (by omega) (by decide) (fun v hv => ⟨f, wm, hr, v, ch, h.par ⟨hn, hd, hf, hw, hh, hv⟩, rfl, by rw [ix3, wy_s3]⟩) hB hz hT t4 t2
    rw [t5] at this
    exact this
  simp only [↓reduceIte]
  obtain ⟨y8, v8, x8, m8⟩ := W 8 (by omega)
  rw [x8, m8]
  simp only [bs]
  rcases v8 with rfl | rfl
  · simp only [one0, ↓reduceIte, bs]
    rw [if_neg (show ¬ (4 : Int32) = cI (-1) by decide)]
    have := so_key (n := n) (c := c) (k := k) (w := w) (l := l) (d := d) (f := f) (wm := wm) (hr := hr) (b := b) (ch := ch) (sd := sd) (P := P) (Q := Q) (J := 4) (N := 12) (s0 := nI a) (t0 := 1) h (by decide) (by decide) (by decide) (by omega) (by decide) (fun v hv => ⟨f, wm, hr, b, v, HI.mk' h.hp h.hc (fun i hi => h.m hi) hv (fun i hi => h.z hi), rfl, by rw [ix4, wy_s4]⟩) hB hz hT t4 t2
    rw [t5] at this
    exact this
  unfold fX5_statement_j228
  simp only [↓reduceIte, bs]
  exact ⟨0, n, c, k, w, l, d, f, wm, hr, b, ch, a, e, 1, Q, rfl, rfl, Or.inl rfl, tm0, Nat.le_refl _, h, Nat.le_refl _⟩
/-- the whole tape read by both -/
def LO (B : Nat → Int32) (z : Nat) (o : Nat → Int32) (P : PT) (sd : Int32) (c : Nat) (ox : Option (Int32 × TapeT × HallT)) (om : Option (Int32 × MT)) : Prop := ∃ (n' c' : Nat) (k' w' l' : Nat → Nat) (d' f' wm' hr' b' ch' : Nat) (s' : Int32) (a' : Int32) (tk : Int32) (Q' : QT), HI n' c' k' w' l' d' f' wm' hr' b' ch' ∧ c ≤ c' ∧ q_from Q' = s' ∧ q_ahead Q' = o ∧ ((∃ r, r < 2 ^ 31 ∧ ox = some (nI r, (B, nI z, s', a', tk), eH n' c' k' w' l' d' f' wm' hr' b' ch' sd) ∧ om = some (nI r, eM n' c' k' w' l' d' f' wm' hr' b' ch' sd (ps_taped P 0) Q')) ∨ (ox = some (cI (-1), (B, nI z, s', a', tk), eH n' c' k' w' l' d' f' wm' hr' b' ch' sd) ∧ om = fX5_hall_j78 (eM n' c' k' w' l' d' f' wm' hr' b' ch' sd P Q')))
theorem m_l0 {v : Int32} {fu : Nat} (hf : 0 < fu) : fX5_hall_L17 fu v (0 : Int32) M = fX5_hall_j78 M := by
  cases fu with
  | zero => omega
  | succ fu =>
    unfold fX5_hall_L17
    rw [if_pos rfl]
theorem TM.nw {a e : Nat} {tk : Int32} (tm : TM B z a e tk Q o) : (tk = 0 ∧ q_token Q = 101) ∨ (tk = 1 ∧ q_token Q = 119 ∧ a < e) ∨ (tk = 3 ∧ q_token Q = 59 ∧ a < e) ∨ (¬ tk = 0 ∧ ¬ tk = 1 ∧ ¬ tk = 3 ∧ ¬ q_token Q = 119 ∧ ¬ q_token Q = 101 ∧ ¬ q_token Q = 59) := by
  obtain ⟨t1, t2, t3, t4, t5, t6⟩ := tm
  rcases t6 with q | q | ⟨q1, -, -, q2⟩ | q | ⟨q1, q2, -⟩
  · exact Or.inl q
  · exact Or.inr (Or.inl q)
  · right
    right
    right
    subst q1
    rw [q2]
    by_cases y : e - a ≤ 3
    · rw [if_pos y]
      decide
    · rw [if_neg y]
      decide
  · exact Or.inr (Or.inr (Or.inl q))
  · right
    right
    right
    subst q1
    rw [q2]
    decide
theorem hallL (hB : ∀ i, i < 250 → B i = p_tape P i) (hz : z ≤ 250) (hT : p_taped P = nI z) : ∀ (fu fu2 e s : Nat) (n c : Nat) (k w l : Nat → Nat) (d f wm hr b ch : Nat) (Q : QT) (s0 t0 : Int32), z - e < fu → z - e + 1 < fu2 → e ≤ z → 2 * s ≤ e → q_to Q = nI e → HI n c k w l d f wm hr b ch → q_ahead Q = o → LO B z o P sd c (fX3_read_L7 fu (nI (s + 1)) (B, nI z, s0, nI e, t0) (eH n c k w l d f wm hr b ch sd)) (fX5_hall_L17 fu2 (nI s) (1 : Int32) (eM n c k w l d f wm hr b ch sd P Q)) := by
  intro fu
  induction fu with
  | zero => intro fu2 e s n c k w l d f wm hr b ch Q s0 t0 hf; omega
  | succ fu ih =>
    intro fu2 e s n c k w l d f wm hr b ch Q s0 t0 hf hf2 he hs hQ h ho
    cases fu2 with
    | zero => omega
    | succ fu2 =>
      unfold fX3_read_L7 fX5_hall_L17
      rw [if_neg (show ¬ (250 : Int32) < nI (s + 1) from nI_nlt (a := 250) (b := s + 1) (by omega) (by omega)), if_neg one0]
      obtain ⟨a1, e1, tk1, Q1, g1, g2, g3, g4⟩ := lex (n := n) (c := c) (k := k) (w := w) (l := l) (d := d) (f := f) (wm := wm) (hr := hr) (b := b) (ch := ch) (sd := sd) (P := P) (Q := Q) (s0 := s0) (t0 := t0) hB hz hT he hQ
      rw [g2, g3]
      rw [ho] at g4
      simp only [bs, tg_t]
      have bad : ¬ tk1 = 1 → ¬ q_token Q1 = 119 → LO B z o P sd c (if tk1 = 1 then ((fX3_readStatement (B, nI z, nI a1, nI e1, tk1) (eH n c k w l d f wm hr b ch sd)).bind fun q3 => (if q3.1 = 0 then some ((cI (-1)), q3.2.1, q3.2.2) else ((fX3_readToken q3.2.1).bind fun q5 => (if (t_token q5) = 0 then some (nI (s + 1), q5, q3.2.2) else (if (t_token q5) = (3 : Int32) then fX3_read_L7 fu (nI (s + 1) + (1 : Int32)) q5 q3.2.2 else some ((cI (-1)), q5, q3.2.2)))))) else some ((cI (-1)), (B, nI z, nI a1, nI e1, tk1), (eH n c k w l d f wm hr b ch sd))) ((fX5_statement (eM n c k w l d f wm hr b ch sd P Q1)).bind fun q13 => (if q13.1 = 0 then fX5_hall_L17 fu2 (nI s) q13.1 q13.2 else ((fX5_next q13.2).bind fun q15 => (if (m_token q15) = (101 : Int32) then ((some (ms_taped q15 (0 : Int32))).bind fun w17 => some ((nI s + (1 : Int32)), w17)) else (if (m_token q15) = (59 : Int32) then fX5_hall_j74 (fun v1 v2 S0 => fX5_hall_L17 fu2 v1 v2 S0) (nI s + (1 : Int32)) (1 : Int32) q15 else fX5_hall_j74 (fun v1 v2 S0 => fX5_hall_L17 fu2 v1 v2 S0) (nI s + (1 : Int32)) (0 : Int32) q15))))) := by
        intro b1 b2
        rw [if_neg b1, m_st0 b2]
        simp only [bs, ↓reduceIte]
        rw [m_l0 (by omega)]
        exact ⟨n, c, k, w, l, d, f, wm, hr, b, ch, nI a1, nI e1, tk1, Q1, h, Nat.le_refl _, g4.1, g4.2.2.2.2.1, Or.inr ⟨rfl, rfl⟩⟩
      rcases g4.nw with ⟨q1, q2⟩ | ⟨q1, q2, q3⟩ | ⟨q1, q2, q3⟩ | ⟨-, q1, -, q2, -⟩
      · exact bad (by rw [q1]; decide) (by rw [q2]; decide)
      · clear bad
        subst q1
        rw [if_pos rfl]
        obtain ⟨r, n', c', k', w', l', d', f', wm', hr', b', ch', a2, e2, tk2, Q2, x1, x2, x3, x4, x5, x6, x7⟩ := stm (sd := sd) (P := P) h hB hz hT g4
        rw [x1, x2]
        simp only [bs]
        rcases x3 with rfl | rfl
        · simp only [↓reduceIte]
          rw [m_l0 (by omega)]
          exact ⟨n', c', k', w', l', d', f', wm', hr', b', ch', nI a2, nI e2, tk2, Q2, x6, x7, x4.1, x4.2.2.2.2.1, Or.inr ⟨rfl, rfl⟩⟩
        · simp only [one0, ↓reduceIte]
          obtain ⟨a3, e3, tk3, Q3, y1, y2, y3, y4⟩ := lex (n := n') (c := c') (k := k') (w := w') (l := l') (d := d') (f := f') (wm := wm') (hr := hr') (b := b') (ch := ch') (sd := sd) (P := P) (Q := Q2) (s0 := nI a2) (t0 := tk2) hB hz hT x4.2.2.2.1 x4.2.1
          rw [y2, y3]
          rw [x4.2.2.2.2.1] at y4
          simp only [bs, tg_t, f_tok, fX5_hall_j74, fs_taped, nI_1]
          rcases y4.nw with ⟨q4, q5⟩ | ⟨q4, q5, -⟩ | ⟨q4, q5, q6⟩ | ⟨q4, -, q5, -, q6, q7⟩
          · subst q4
            rw [q5, if_pos rfl, if_pos rfl]
            exact ⟨n', c', k', w', l', d', f', wm', hr', b', ch', nI a3, nI e3, 0, Q3, x6, x7, y4.1, y4.2.2.2.2.1, Or.inl ⟨s + 1, by omega, rfl, rfl⟩⟩
          · subst q4
            rw [q5, if_neg one0, if_neg (by decide), if_neg (by decide), if_neg (by decide), m_l0 (by omega)]
            exact ⟨n', c', k', w', l', d', f', wm', hr', b', ch', nI a3, nI e3, 1, Q3, x6, x7, y4.1, y4.2.2.2.2.1, Or.inr ⟨rfl, rfl⟩⟩
          · subst q4
            rw [q5, if_neg (by decide), if_pos rfl, if_neg (by decide), if_pos rfl]
            have e3z := y4.2.2.2.1
            obtain ⟨n4, c4, k4, w4, l4, d4, f4, wm4, hr4, b4, ch4, s4, a4, t4, Q4, z1, z2, z3⟩ := ih fu2 e3 (s + 1) n' c' k' w' l' d' f' wm' hr' b' ch' Q3 (nI a3) 3 (by omega) (by omega) e3z (by omega) y4.2.1 x6 y4.2.2.2.2.1
            exact ⟨n4, c4, k4, w4, l4, d4, f4, wm4, hr4, b4, ch4, s4, a4, t4, Q4, z1, by omega, z3⟩
          · rw [if_neg q4, if_neg q5, if_neg q6, if_neg q7, m_l0 (by omega)]
            exact ⟨n', c', k', w', l', d', f', wm', hr', b', ch', nI a3, nI e3, tk3, Q3, x6, x7, y4.1, y4.2.2.2.2.1, Or.inr ⟨rfl, rfl⟩⟩
      · exact bad (by rw [q1]; decide) (by rw [q2]; decide)
      · exact bad q1 q2
theorem c_hall (hR : Rel S M) : Out (fX4_hall S) (fX5_hall M) := by
  obtain ⟨n, c, k, w, l, d, f, wm, hr, b, ch, sd, P, Q, hx, rfl, h, hX⟩ := hR
  obtain ⟨hB, z, hz, t1, t2⟩ := hX.2.2.1
  obtain ⟨o, k1, k2⟩ := m_keep_ahead (n := n) (c := c) (k := k) (w := w) (l := l) (d := d) (f := f) (wm := wm) (hr := hr) (b := b) (ch := ch) (sd := sd) (P := P) (Q := Q)
  unfold fX4_hall fX5_hall fX3_read
  rw [x_look hx h hX.1.1, k1]
  simp only [bs, fs_to]
  rcases hxt : x_tape S with ⟨B, z', s0, a0, t0⟩
  rw [hxt] at hB t1
  rw [tg_z] at t1
  subst t1
  rw [tg_b] at hB
  rw [tp_a]
  have L := hallL (sd := sd) (o := o) hB hz t2 FU FU 0 0 n c k w l d f wm hr b ch (qs_to (qs_ahead Q o) 0) s0 t0 (by show z - 0 < 1100; omega) (by show z - 0 + 1 < 1100; omega) (by omega) (by omega) rfl h rfl
  rw [show nI (0 + 1) = (1 : Int32) from rfl, show nI 0 = (0 : Int32) from rfl] at L
  obtain ⟨n', c', k', w', l', d', f', wm', hr', b', ch', s', a', tk, Q', h', hc, g1, g2, g3⟩ := L
  have tr : TapeR (B, (0 : Int32), s', a', tk) (ps_taped P 0) := ⟨hB, 0, by omega, rfl, rfl⟩
  have hX' : RX (xs_tape (xs_trial S (eH n' c' k' w' l' d' f' wm' hr' b' ch' sd)) (B, (0 : Int32), s', a', tk)) (ps_taped P 0) c := RX.tape (S := xs_trial S (eH n' c' k' w' l' d' f' wm' hr' b' ch' sd)) (P := P) ⟨⟨h'.zh, hX.1.2⟩, hX.2⟩ rfl rfl rfl rfl rfl rfl tr
  rcases g3 with ⟨r, hr0, x1, x2⟩ | ⟨x1, x2⟩
  · rw [x1, x2]
    simp only [bs]
    rw [if_neg (nI_m1 hr0), hx, x_take h.zh h'.zh]
    simp only [bs, tp_z]
    exact ⟨_, _, _, rfl, rfl, rel_now (S := xs_tape (xs_trial S (eH n' c' k' w' l' d' f' wm' hr' b' ch' sd)) (B, (0 : Int32), s', a', tk)) h' hX' hc⟩
  · rw [x1, x2]
    unfold fX5_hall_j78
    rw [m_again_ahead (by rw [g2]; exact k2) (fun i hi => by
      obtain ⟨a, b, c⟩ := h.z hi
      obtain ⟨a', b', c'⟩ := h'.z hi
      exact ⟨a'.trans a.symm, b'.trans b.symm, c'.trans c.symm⟩)]
    simp only [bs, ↓reduceIte, tp_z, fs_taped]
    obtain ⟨S', M', u1, u2, u3, u4, u5⟩ := no_g (cd := cI (-2)) (j := 0) (by omega) (by decide) (by decide) (rel_s (S := xs_tape (xs_trial S (eH n' c' k' w' l' d' f' wm' hr' b' ch' sd)) (B, (0 : Int32), s', a', tk)) (Q := Q') hx h hX')
    rw [u1, u2]
    simp only [bs]
    rw [u4, u5, f_fr, g1]
    exact ⟨_, _, _, rfl, rfl, u3⟩
end L2
