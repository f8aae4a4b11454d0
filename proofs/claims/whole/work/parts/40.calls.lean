/-! ===== pure layer: told sessions, kinds ===== -/
section C6
variable {n c : Nat} {k w l : Nat → Nat} {d f wm hr b ch : Nat} {sd : Int32} {P : PT} {Q : QT} {S : XT} {M : MT} {p1 p2 p3 p4 p5 : Int32}
theorem rr0 : fX4_rowRefusal p1 (0 : Int32) p3 S = some (cI (-2)) := by
  unfold fX4_rowRefusal
  rcases shelf_cases p1 with ⟨a, a'⟩ | ⟨s, hs, rfl, a, a'⟩
  · rw [a]
    rfl
  · rw [a]
    rfl
theorem rrn {o : Int32} (a : fX4_isShelf p1 = some 0) : fX4_rowRefusal p1 o p3 S = some (cI (-2)) := by
  unfold fX4_rowRefusal
  rw [a]
  rfl
theorem told_cases {s z : Nat} (hs : s < 8) (hz : z ≤ 40) (hX : RX S P c) (hc : c ≤ 10) : (∃ (cd : Int32) (j : Nat), j < 5 ∧ cI (-2) - cd = nI j ∧ -cd = nI (j + 2) ∧ ¬ cd = 0 ∧ ¬ (0 : Int32) ≤ cd ∧ fX4_rowRefusal (nI s) (1 : Int32) (nI z) S = some cd ∧ fX5_noTold (nI s) (nI z) (eM n c k w l d f wm hr b ch sd P Q) = some cd) ∨ (fX4_rowRefusal (nI s) (1 : Int32) (nI z) S = some 0 ∧ fX5_noTold (nI s) (nI z) (eM n c k w l d f wm hr b ch sd P Q) = some 0 ∧ ∀ i, i < 40 → sh_elements (x_sh S s) i = p_rowOf P (40 * s + i)) := by
  unfold fX5_noTold
  rw [xrr hs]
  rcases row_cases (n := n) (k := k) (w := w) (l := l) (d := d) (f := f) (wm := wm) (hr := hr) (b := b) (ch := ch) (sd := sd) (Q := Q) hs hX hc with ⟨q1, q2, q3, q4⟩ | ⟨q1, m, hm, q2, q3, q4, q5⟩ | ⟨q1, st, hst, sz, hsz, q2, q3, q4, q5, q6, q7⟩
  · refine Or.inl ⟨cI (-4), 2, by omega, by decide, by decide, by decide, by decide, ?_, ?_⟩
    · rw [if_neg (by rw [q1]; decide), if_neg (by rw [q1]; decide)]
    · rw [q3, q4]
      rfl
  · refine Or.inl ⟨cI (-3), 1, by omega, by decide, by decide, by decide, by decide, ?_, ?_⟩
    · rw [if_pos q1]
    · rw [q4, q5]
      rfl
  · rw [q7, if_neg (by rw [q1]; decide), if_pos q1, q4]
    simp only [bs, one0, ↓reduceIte, u_gd hs (show 8 < 2 ^ 31 by decide), u_ix (show s < 2 ^ 31 by omega), f_rowLength, q5]
    by_cases hzs : z ≤ sz
    · refine Or.inr ⟨?_, ?_, q6⟩
      · rw [if_pos (nI_le hzs (by omega))]
      · rw [if_pos (nI_le hzs (by omega))]
    · refine Or.inl ⟨cI (-2), 0, by omega, by decide, by decide, by decide, by decide, ?_, ?_⟩
      · rw [if_neg (nI_ge (by omega) (by omega))]
      · rw [if_neg (nI_ge (by omega) (by omega))]
theorem m_ta {s i : Nat} (hs : s < 8) (hi : i < 40) : fX5_toldAt (nI s) (nI i) (eM n c k w l d f wm hr b ch sd P Q) = some (p_rowOf P (40 * s + i)) := by
  unfold fX5_toldAt
  rw [show (40 : Int32) * nI s = nI (40 * s) from pk_mul 40 s, nI_add, u_gd (show 40 * s + i < 320 by omega) (by decide), u_ix (by omega), f_rowOf]
theorem set_cases (v : Int64) : (fX4_isSetting v = some 0 ∧ fX5_isSetting v = some 0) ∨ ∃ a e, a < 16 ∧ e < 5 ∧ v = lN (10 * a + e) ∧ fX4_isSetting v = some 1 ∧ fX5_isSetting v = some 1 := by
  unfold fX4_isSetting fX5_isSetting
  simp only [lg_cmp_lt, lg_cmp_ge, lg_cmp_gt]
  by_cases h : v < 0
  · exact Or.inl ⟨by rw [if_pos h], by rw [if_pos h]⟩
  · obtain ⟨m, hm, rfl⟩ := pk_lOf h
    have e1 : lN m / (10 : Int64) = lN (m / 10) := pk_lDiv (b := 10) hm (by omega) (by omega)
    have e2 : lrm (lN m) (10 : Int64) = lN (m % 10) := pk_lRem (b := 10) hm (by omega) (by omega)
    rw [if_neg h, if_neg h, e1, e2, u_if (show (16 : Int64) ≤ lN (m / 10) ↔ 16 ≤ m / 10 from pk_lLE (a := 16) (b := m / 10) (by omega) (by omega)), u_if (show (4 : Int64) < lN (m % 10) ↔ 4 < m % 10 from pk_lLT (a := 4) (b := m % 10) (by omega) (by omega)), u_if (show (16 : Int64) ≤ lN (m / 10) ↔ 16 ≤ m / 10 from pk_lLE (a := 16) (b := m / 10) (by omega) (by omega)), u_if (show (5 : Int64) ≤ lN (m % 10) ↔ 5 ≤ m % 10 from pk_lLE (a := 5) (b := m % 10) (by omega) (by omega))]
    by_cases q1 : 16 ≤ m / 10
    · exact Or.inl ⟨by rw [if_pos q1], by rw [if_pos q1]⟩
    · rw [if_neg q1, if_neg q1]
      by_cases q2 : 5 ≤ m % 10
      · exact Or.inl ⟨by rw [if_pos (by omega)], by rw [if_pos q2]⟩
      · exact Or.inr ⟨m / 10, m % 10, by omega, by omega, by rw [isC_eq], by rw [if_neg (by omega)], by rw [if_neg q2]⟩
theorem wrong_eq {s z : Nat} (hs : s < 8) (hz : z ≤ 40) (hE : ∀ i, i < 40 → sh_elements (x_sh S s) i = p_rowOf P (40 * s + i)) : ∃ y, fX4_wrongAt (nI s) (nI z) S = some y ∧ fX5_wrong (nI s) (nI z) (eM n c k w l d f wm hr b ch sd P Q) = some y ∧ (y = cI (-1) → ∀ i, i < z → ∃ a e, a < 16 ∧ e < 5 ∧ p_rowOf P (40 * s + i) = lN (10 * a + e)) := by
  have q : ∀ (r i fu : Nat), i + r = z → r < fu → (∀ j, j < i → ∃ a e, a < 16 ∧ e < 5 ∧ p_rowOf P (40 * s + j) = lN (10 * a + e)) → ∃ y, fX4_wrongAt_L13 (nI s) (nI z) S fu (nI i) = some y ∧ fX5_wrong_L2 (nI s) (nI z) (eM n c k w l d f wm hr b ch sd P Q) fu (nI i) = some y ∧ (y = cI (-1) → ∀ i, i < z → ∃ a e, a < 16 ∧ e < 5 ∧ p_rowOf P (40 * s + i) = lN (10 * a + e)) := by
    intro r
    induction r with
    | zero =>
      intro i fu e hf hg
      obtain rfl : i = z := by omega
      cases fu with
      | zero => omega
      | succ fu =>
        unfold fX4_wrongAt_L13 fX5_wrong_L2
        rw [if_pos (nI_le (Nat.le_refl _) (by omega)), if_pos (nI_le (Nat.le_refl _) (by omega))]
        exact ⟨_, rfl, rfl, fun _ => hg⟩
    | succ r ih =>
      intro i fu e hf hg
      cases fu with
      | zero => omega
      | succ fu =>
        have h40 : ¬ (40 : Int32) ≤ nI i := nI_ge (a := i) (b := 40) (by omega) (by omega)
        unfold fX4_wrongAt_L13 fX5_wrong_L2
        simp only [if_neg (nI_ge (show i < z by omega) (show z < 2 ^ 31 by omega)), if_neg h40, u_gd (show i < 40 by omega) (show 40 < 2 ^ 31 by decide), u_ix (show i < 2 ^ 31 by omega), u_ix (show s < 2 ^ 31 by omega)]
        rw [m_ta hs (by omega), hE i (by omega), nI_1]
        simp only [bs]
        rcases set_cases (p_rowOf P (40 * s + i)) with ⟨a, a'⟩ | ⟨x, y, hx, hy, ev, a, a'⟩
        · rw [a, a']
          refine ⟨nI i, rfl, rfl, fun e => absurd e (m1n (by omega))⟩
        · rw [a, a']
          simp only [bs, one0, ↓reduceIte]
          exact ih (i + 1) fu (by omega) (by omega) (fun j hj => by
            by_cases e : j = i
            · subst e
              exact ⟨x, y, hx, hy, ev⟩
            · exact hg j (by omega))
  unfold fX4_wrongAt fX5_wrong
  rw [u_gd hs (by omega)]
  exact q z 0 FU (by omega) (by show z < 1100; omega) (fun j hj => by omega)
theorem c_judge (hR : Rel S M) : Out (fX4_judge p1 p2 S) (fX5_judge p1 p2 M) := by
  obtain ⟨n, c, k, w, l, d, f, wm, hr, b, ch, sd, P, Q, hx, rfl, h, hX⟩ := hR
  have hR := rel_s (Q := Q) hx h hX
  have hc := h.hc
  unfold fX4_judge fX5_judge fX5_judge_j17
  rcases count_cases p2 with ⟨a, a'⟩ | ⟨z, hz, rfl, a, a'⟩
  · rw [a, a']
    simp only [bs]
    rw [rr0]
    simp only [bs, cn2, ↓reduceIte]
    rcases shelf_cases p1 with ⟨a, a'⟩ | ⟨s, hs, rfl, a, a'⟩
    · rw [a']
      simp only [bs, ↓reduceIte]
      exact out2 hR
    · rw [a']
      simp only [bs, one0, ↓reduceIte]
      exact out2 hR
  rw [a, a']
  simp only [bs]
  rcases shelf_cases p1 with ⟨a, a'⟩ | ⟨s, hs, rfl, a, a'⟩
  · rw [rrn a, a']
    simp only [bs, cn2, ↓reduceIte]
    exact out2 hR
  rw [a']
  simp only [bs, one0, ↓reduceIte]
  rcases told_cases (n := n) (k := k) (w := w) (l := l) (d := d) (f := f) (wm := wm) (hr := hr) (b := b) (ch := ch) (sd := sd) (Q := Q) hs hz hX hc with ⟨cd, j, hj, e1, e2, e3, e4, e5, e6⟩ | ⟨e5, e6, hE⟩
  · rw [e5, e6]
    simp only [bs, if_neg e3, if_neg e4]
    exact out_no hj e1 e2 hR
  · rw [e5, e6]
    simp only [bs, i00, ↓reduceIte]
    obtain ⟨y, y1, y2, -⟩ := wrong_eq (n := n) (c := c) (k := k) (w := w) (l := l) (d := d) (f := f) (wm := wm) (hr := hr) (b := b) (ch := ch) (sd := sd) (P := P) (Q := Q) hs hz hE
    rw [y1, y2]
    exact ⟨_, _, _, rfl, rfl, hR⟩
theorem m_sets {a e : Nat} (ha : a < 16) (he : e < 10) : fX5_sets (nI (10 * a + e)) (eM n c k w l d f wm hr b ch sd P Q) = some (eM n c k w l a e wm hr b ch sd P Q) := by
  unfold fX5_sets
  rw [u_div10 (by omega), u_irm10 (by omega), show (10 * a + e) / 10 = a by omega, show (10 * a + e) % 10 = e by omega]
  simp only [bs, wy_g0, wy_g1, wy_g2, wy_g3, wy_g4, ix0, ix1, ix2, ix3, ix4, g05, g15, g25, g35, g45, fs_doors, f_ways, wy_s0, fs_ways]
theorem m_sn (hd : d < 16) (hf : f ≤ 4) : fX5_settingNow (eM n c k w l d f wm hr b ch sd P Q) = some (nI (10 * d + f)) := by
  unfold fX5_settingNow
  simp only [f_n, f_motes, f_kind, f_own, f_cell, f_doors, f_ways, f_seed, wy_g0, wy_g1, wy_g2, wy_g3, wy_g4, ix0, ix1, ix2, ix3, ix4, g05, g15, g25, g35, g45]
  rw [show (10 : Int32) * nI d = nI (10 * d) from pk_mul 10 d, nI_add]
theorem through {s z : Nat} {g : Nat → Int64} (hs : s < 8) (hz : z ≤ 40) (hE : ∀ i, i < 40 → g i = p_rowOf P (40 * s + i)) (hG : ∀ i, i < z → ∃ a e, a < 16 ∧ e < 5 ∧ p_rowOf P (40 * s + i) = lN (10 * a + e)) : ∀ (r i fu : Nat) (l : Nat → Nat) (d f hr : Nat), i + r = z → r < fu → HI n c k w l d f wm hr b ch → ∃ (l' : Nat → Nat) (d' f' hr' : Nat), HI n c k w l' d' f' wm hr' b ch ∧ (∀ j, 10 ≤ j → l' j = l j) ∧ fX1_goThrough_L2 (nI z) g fu (nI i) (eH n c k w l d f wm hr b ch sd) = some (eH n c k w l' d' f' wm hr' b ch sd) ∧ fX5_happens_L2 (nI s) (nI z) fu (nI i) (eM n c k w l d f wm hr b ch sd P Q) = some (eM n c k w l' d' f' wm hr' b ch sd P Q) := by
  intro r
  induction r with
  | zero =>
    intro i fu l d f hr e hf h
    obtain rfl : i = z := by omega
    cases fu with
    | zero => omega
    | succ fu =>
      refine ⟨l, d, f, hr, h, fun _ _ => rfl, ?_, ?_⟩
      · unfold fX1_goThrough_L2
        rw [if_pos (nI_le (Nat.le_refl _) (by omega))]
      · unfold fX5_happens_L2
        rw [if_pos (nI_le (Nat.le_refl _) (by omega))]
  | succ r ih =>
    intro i fu l d f hr e hf h
    cases fu with
    | zero => omega
    | succ fu =>
      obtain ⟨a, y, ha, hy, ev⟩ := hG i (by omega)
      have h40 : ¬ (40 : Int32) ≤ nI i := nI_ge (a := i) (b := 40) (by omega) (by omega)
      have h' : HI n c k w l a y wm hr b ch := h.par ⟨h.hp.1, ha, by omega, h.hp.2.2.2⟩
      have e1 : (lN (10 * a + y) / (10 : Int64)).toInt32 = nI a := by
        rw [show lN (10 * a + y) / (10 : Int64) = lN ((10 * a + y) / 10) from pk_lDiv (b := 10) (by omega) (by omega) (by omega), lN_i, show (10 * a + y) / 10 = a by omega]
      have e2 : (lrm (lN (10 * a + y)) (10 : Int64)).toInt32 = nI y := by
        rw [show lrm (lN (10 * a + y)) (10 : Int64) = lN ((10 * a + y) % 10) from pk_lRem (b := 10) (by omega) (by omega) (by omega), lN_i, show (10 * a + y) % 10 = y by omega]
      unfold fX1_goThrough_L2 fX5_happens_L2
      simp only [if_neg (nI_ge (show i < z by omega) (show z < 2 ^ 31 by omega)), if_neg h40, u_gd (show i < 40 by omega) (show 40 < 2 ^ 31 by decide), u_ix (show i < 2 ^ 31 by omega)]
      rw [m_ta hs (by omega), hE i (by omega), ev, e1, e2, nI_1]
      simp only [bs, es_doors, es_fan]
      rw [show fX1_goOn (1 : Int32) (eH n c k w l a y wm hr b ch sd) = _ from x_goOn (t := 1) h' (by omega), lN_i, m_sets ha (by omega)]
      simp only [bs]
      rw [m_step0 h']
      simp only [bs]
      obtain ⟨l', d', f', hr', g1, g2, g3, g4⟩ := ih (i + 1) fu _ _ _ _ (by omega) (by omega) (h'.after (t := 1))
      exact ⟨l', d', f', hr', g1, fun j hj => (g2 j hj).trans (cl_z h' j hj), g3, g4⟩
/-- a session may be judged: both refuse alike, or both go on -/
theorem sess_cases {s z : Nat} (hs : s < 8) (hz : z ≤ 40) (hX : RX S P c) (hc : c ≤ 10) : (∃ (cd : Int32) (j : Nat), j < 5 ∧ cI (-2) - cd = nI j ∧ -cd = nI (j + 2) ∧ ¬ cd = 0 ∧ ¬ (0 : Int32) ≤ cd ∧ fX4_sessionRefusal (nI s) (nI z) (1 : Int32) S = some cd ∧ fX5_noSession (nI s) (nI z) (eM n c k w l d f wm hr b ch sd P Q) = some cd) ∨ (fX4_sessionRefusal (nI s) (nI z) (1 : Int32) S = some 0 ∧ fX5_noSession (nI s) (nI z) (eM n c k w l d f wm hr b ch sd P Q) = some 0 ∧ (∀ i, i < 40 → sh_elements (x_sh S s) i = p_rowOf P (40 * s + i)) ∧ ∀ i, i < z → ∃ a e, a < 16 ∧ e < 5 ∧ p_rowOf P (40 * s + i) = lN (10 * a + e)) := by
  have a : fX4_isElementCount (nI z) = some 1 := by
    unfold fX4_isElementCount
    rw [if_neg (nI_pos (by omega)), if_neg (show ¬ (40 : Int32) < nI z from nI_nlt (a := 40) (b := z) hz (by omega))]
  unfold fX4_sessionRefusal fX5_noSession fX4_sessionRefusal_j18 fX4_sessionRefusal_j17
  rw [a]
  simp only [bs, one0, ↓reduceIte]
  rcases told_cases (n := n) (k := k) (w := w) (l := l) (d := d) (f := f) (wm := wm) (hr := hr) (b := b) (ch := ch) (sd := sd) (Q := Q) hs hz hX hc with ⟨cd, j, hj, e1, e2, e3, e4, e5, e6⟩ | ⟨e5, e6, hE⟩
  · refine Or.inl ⟨cd, j, hj, e1, e2, e3, e4, ?_, ?_⟩
    · rw [e5]
      simp only [bs, if_neg e3]
    · rw [e6]
      simp only [bs, if_neg e4]
  · rw [e5, e6]
    simp only [bs, i00, ↓reduceIte]
    obtain ⟨y, y1, y2, y3⟩ := wrong_eq (n := n) (c := c) (k := k) (w := w) (l := l) (d := d) (f := f) (wm := wm) (hr := hr) (b := b) (ch := ch) (sd := sd) (P := P) (Q := Q) hs hz hE
    rw [y1, y2]
    simp only [bs]
    by_cases q : y = cI (-1)
    · refine Or.inr ⟨?_, ?_, hE, y3 q⟩
      · rw [if_pos q]
      · rw [if_pos q]
    · refine Or.inl ⟨cI (-5), 3, by omega, by decide, by decide, by decide, by decide, ?_, ?_⟩
      · rw [if_neg q]
      · rw [if_neg q]
theorem sr0 {o : Int32} (ho : fX4_isElementCount p2 = some 0 ∨ fX4_isShelf p1 = some 0 ∨ o = 0) : fX4_sessionRefusal p1 p2 o S = some (cI (-2)) := by
  unfold fX4_sessionRefusal fX4_sessionRefusal_j18 fX4_sessionRefusal_j17 fX4_sessionRefusal_j18
  rcases ho with ho | ho | ho
  · rw [ho]
    simp only [bs, ↓reduceIte]
    rw [rr0]
    rfl
  · rcases count_cases p2 with ⟨a, a'⟩ | ⟨z, hz, rfl, a, a'⟩
    · rw [a]
      simp only [bs, ↓reduceIte]
      rw [rr0]
      rfl
    · rw [a]
      simp only [bs, one0, ↓reduceIte]
      rw [rr0, rrn ho]
      simp only [bs, cn2, ↓reduceIte, ite_self]
  · subst ho
    rcases count_cases p2 with ⟨a, a'⟩ | ⟨z, hz, rfl, a, a'⟩
    · rw [a]
      simp only [bs, ↓reduceIte]
      rw [rr0]
      rfl
    · rw [a]
      simp only [bs, one0, ↓reduceIte]
      rw [rr0]
      simp only [bs, cn2, ↓reduceIte]
theorem c_done (hR : Rel S M) : Out (fX4_done p1 p2 S) (fX5_done p1 p2 M) := by
  obtain ⟨n, c, k, w, l, d, f, wm, hr, b, ch, sd, P, Q, hx, rfl, h, hX⟩ := hR
  have hR := rel_s (Q := Q) hx h hX
  have hc := h.hc
  unfold fX4_done fX5_done fX5_done_j17
  rcases shelf_cases p1 with ⟨a, a'⟩ | ⟨s, hs, rfl, a, a'⟩
  · rw [sr0 (Or.inr (Or.inl a)), a']
    simp only [bs, cn2, ↓reduceIte]
    exact out2 hR
  rcases count_cases p2 with ⟨b', b''⟩ | ⟨z, hz, rfl, b', b''⟩
  · rw [sr0 (Or.inl b'), a', b'']
    simp only [bs, cn2, one0, ↓reduceIte]
    exact out2 hR
  rw [a', b'']
  simp only [bs, one0, ↓reduceIte]
  rcases sess_cases (n := n) (k := k) (w := w) (l := l) (d := d) (f := f) (wm := wm) (hr := hr) (b := b) (ch := ch) (sd := sd) (Q := Q) hs hz hX hc with ⟨cd, j, hj, e1, e2, e3, e4, e5, e6⟩ | ⟨e5, e6, hE, hG⟩
  · rw [e5, e6]
    simp only [bs, if_neg e3, if_neg e4]
    exact out_no hj e1 e2 hR
  rw [e5, e6]
  simp only [bs, i00, ↓reduceIte, u_gd hs (show 8 < 2 ^ 31 by decide), u_ix (show s < 2 ^ 31 by omega)]
  obtain ⟨l', d', f', hr', g1, g2, g3, g4⟩ := through (c := c) (k := k) (w := w) (sd := sd) (Q := Q) hs hz hE hG z 0 FU l d f hr (by omega) (by show z < 1100; omega) h
  rw [hx, show fX1_goThrough (nI z) (eH n c k w l d f wm hr b ch sd) _ = _ from g3, show fX5_happens (nI s) (nI z) (eM n c k w l d f wm hr b ch sd P Q) = _ from g4]
  simp only [bs]
  rw [x_lw g1, m_vn g1]
  exact ⟨_, _, _, rfl, rfl, rel_now g1 hX (Nat.le_refl _)⟩
theorem c_behind (hR : Rel S M) : Out (fX4_behind p1 p2 p3 S) (fX5_behind p1 p2 p3 M) := by
  obtain ⟨n, c, k, w, l, d, f, wm, hr, b, ch, sd, P, Q, hx, rfl, h, hX⟩ := hR
  have hR := rel_s (Q := Q) hx h hX
  have hc := h.hc
  obtain ⟨hn, hd, hf, hp'⟩ := h.hp
  -- what both do once the question is good: 0 the votes, 1 whether it carries, 2 where a mote is
  have good : ∀ (kd m : Nat), kd ≤ 2 → (kd = 2 → m < c ∧ p3 = nI (10 + m)) → (kd = 1 → p3 = 1) → (kd = 0 → p3 = 0) → ∀ (v4 : Int32), (kd = 2 → ¬ v4 = 0) → (kd < 2 → v4 = 0) → Out (fX4_behind_j43 p1 p2 p3 v4 (1 : Int32) S) ((fX5_isShelf p1).bind fun q1 => if q1 = 0 then fX5_behind_j37 p1 p2 p3 (eM n c k w l d f wm hr b ch sd P Q) else (fX5_within p2 (0 : Int32) (40 : Int32)).bind fun q5 => if q5 = 0 then fX5_behind_j37 p1 p2 p3 (eM n c k w l d f wm hr b ch sd P Q) else fX5_behind_j44 p1 p2 p3 (eM n c k w l d f wm hr b ch sd P Q)) := by
    intro kd m hkd k2 k1 k0 v4 w2 w1
    unfold fX4_behind_j43 fX5_behind_j37 fX5_behind_j44 fX5_behind_j120
    rcases shelf_cases p1 with ⟨a, a'⟩ | ⟨s, hs, rfl, a, a'⟩
    · rw [sr0 (Or.inr (Or.inl a)), a']
      simp only [bs, cn2, ↓reduceIte]
      exact out2 hR
    rcases count_cases p2 with ⟨b', b''⟩ | ⟨z, hz, rfl, b', b''⟩
    · rw [sr0 (Or.inl b'), a', b'']
      simp only [bs, cn2, one0, ↓reduceIte]
      exact out2 hR
    rw [a', b'']
    simp only [bs, one0, ↓reduceIte]
    rcases sess_cases (n := n) (k := k) (w := w) (l := l) (d := d) (f := f) (wm := wm) (hr := hr) (b := b) (ch := ch) (sd := sd) (Q := Q) hs hz hX hc with ⟨cd, j, hj, e1, e2, e3, e4, e5, e6⟩ | ⟨e5, e6, hE, hG⟩
    · rw [e5, e6]
      simp only [bs, if_neg e3, if_neg e4]
      exact out_no hj e1 e2 hR
    rw [e5, e6]
    simp only [bs, i00, ↓reduceIte, u_gd hs (show 8 < 2 ^ 31 by decide), u_ix (show s < 2 ^ 31 by omega)]
    obtain ⟨Q', eq, hW⟩ := m_begins (n := n) (c := c) (k := k) (w := w) (l := l) (d := d) (f := f) (wm := wm) (hr := hr) (b := b) (ch := ch) (sd := sd) (P := P) (Q := Q)
    obtain ⟨l', d', f', hr', g1, g2, g3, g4⟩ := through (c := c) (k := k) (w := w) (sd := sd) (Q := Q') hs hz hE hG z 0 FU l d f hr (by omega) (by show z < 1100; omega) h
    rw [x_look hx h hX.1.1, m_sn hd hf, eq]
    simp only [bs]
    rw [show fX1_goThrough (nI z) (eH n c k w l d f wm hr b ch sd) _ = _ from g3, show fX5_happens (nI s) (nI z) _ = _ from g4]
    simp only [bs]
    rw [m_ends hW g2]
    simp only [bs]
    rw [m_sets hd (by omega)]
    simp only [bs]
    have hkd3 : kd = 0 ∨ kd = 1 ∨ kd = 2 := by omega
    rcases hkd3 with rfl | rfl | rfl
    · rw [if_pos (w1 (by omega)), if_pos (k0 rfl), if_pos (k0 rfl), x_lw g1, m_vn g1]
      exact rel_e hx h hX g1.zh rfl
    · have := k1 rfl
      subst this
      rw [if_pos (w1 (by omega)), x_car g1, m_dc g1]
      simp only [one0, ↓reduceIte, bs]
      unfold fX4_bit
      split
      · simp only [one0, ↓reduceIte, bs]
        exact rel_e hx h hX g1.zh rfl
      · simp only [↓reduceIte, bs]
        exact rel_e hx h hX g1.zh rfl
    · obtain ⟨hm, rfl⟩ := k2 rfl
      rw [if_neg (w2 rfl), if_neg (nI_ne0 (by omega) (by omega)), if_neg (show ¬ nI (10 + m) = (1 : Int32) from fun e => by
        have := (nI_eq (a := 10 + m) (b := 1) (by omega) (by omega)).mp e
        omega), show nI (10 + m) - (10 : Int32) = nI (10 + m - 10) from pk_sub (a := 10 + m) (b := 10) (by omega), show 10 + m - 10 = m by omega]
      simp only [u_gd (show m < 10 by omega) (show 10 < 2 ^ 31 by decide), u_ix (show m < 2 ^ 31 by omega), e_side, e_count, e_kind, e_weight, e_cell, e_doors, e_fan, e_warm, e_hour, e_beam, e_chance, e_seed, f_n, f_motes, f_kind, f_own, f_cell, f_doors, f_ways, f_seed]
      exact rel_e hx h hX g1.zh rfl
  -- the question isn't good
  have bad : ∀ v4 : Int32, Out (fX4_behind_j43 p1 p2 p3 v4 (0 : Int32) S) ((fX5_isShelf p1).bind fun q1 => if q1 = 0 then fX5_behind_j37 p1 p2 p3 (eM n c k w l d f wm hr b ch sd P Q) else (fX5_within p2 (0 : Int32) (40 : Int32)).bind fun q5 => if q5 = 0 then fX5_behind_j37 p1 p2 p3 (eM n c k w l d f wm hr b ch sd P Q) else fX5_behind_j37 p1 p2 p3 (eM n c k w l d f wm hr b ch sd P Q)) := by
    intro v4
    unfold fX4_behind_j43 fX5_behind_j37
    rw [sr0 (Or.inr (Or.inr rfl))]
    simp only [bs, cn2, ↓reduceIte]
    rcases shelf_cases p1 with ⟨a, a'⟩ | ⟨s, hs, rfl, a, a'⟩
    · rw [a']
      simp only [bs, ↓reduceIte]
      exact out2 hR
    rw [a']
    simp only [bs, one0, ↓reduceIte]
    rcases count_cases p2 with ⟨b', b''⟩ | ⟨z, hz, rfl, b', b''⟩
    · rw [b'']
      simp only [bs, ↓reduceIte]
      exact out2 hR
    · rw [b'']
      simp only [bs, one0, ↓reduceIte]
      exact out2 hR
  unfold fX4_behind fX5_behind fX4_behind_j21 fX4_behind_j22 fX4_behind_j38
  rcases wi_cases (N := 1) (1 : Int32) p3 rfl (by decide) with ⟨e, hlo⟩ | ⟨v, hv, e3, h1, h2, h3, e⟩
  · have n0 : ¬ p3 = 0 := fun q => by subst q; revert hlo; decide
    have n1 : ¬ p3 = 1 := fun q => by subst q; revert hlo; decide
    rw [e]
    simp only [if_neg n0, if_neg n1, ↓reduceIte, bs, one0]
    by_cases h10 : p3 < 10
    · rw [if_pos h10]
      have em : fX5_isMote (p3 - (10 : Int32)) (eM n c k w l d f wm hr b ch sd P Q) = some 0 := by
        rcases mote_cases (n := n) (k := k) (w := w) (l := l) (d := d) (f := f) (wm := wm) (hr := hr) (b := b) (ch := ch) (sd := sd) (P := P) (Q := Q) (p3 - (10 : Int32)) hx hc with ⟨a, a'⟩ | ⟨m, hm, e', a, a'⟩
        · exact a'
        · exfalso
          have e2 : p3 = nI (10 + m) := by
            rw [Nat.add_comm, ← nI_add, ← e']
            show p3 = p3 - 10 + 10
            exact (Int32.sub_add_cancel p3 10).symm
          rw [e2] at h10
          exact nI_nlt (a := 10 + m) (b := 10) (by omega) (by omega) h10
      rw [em]
      simp only [bs, ↓reduceIte]
      exact bad 0
    · rw [if_neg h10]
      rcases mote_cases (n := n) (k := k) (w := w) (l := l) (d := d) (f := f) (wm := wm) (hr := hr) (b := b) (ch := ch) (sd := sd) (P := P) (Q := Q) (p3 - (10 : Int32)) hx hc with ⟨a, a'⟩ | ⟨m, hm, e', a, a'⟩
      · rw [a, a']
        simp only [bs, ↓reduceIte]
        exact bad 0
      · rw [a, a']
        simp only [bs, one0, ↓reduceIte]
        have e2 : p3 = nI (10 + m) := by
          rw [Nat.add_comm, ← nI_add, ← e']
          show p3 = p3 - 10 + 10
          exact (Int32.sub_add_cancel p3 10).symm
        exact good 2 m (by omega) (fun _ => ⟨hm, e2⟩) (by omega) (by omega) 1 (fun _ => one0) (by omega)
  · rw [e]
    have h10 : p3 < 10 := by
      rw [e3]
      exact nI_lt (a := v) (b := 10) (by omega) (by omega)
    simp only [if_pos h10, bs, one0, ↓reduceIte]
    have hv5 : v = 0 ∨ v = 1 := by omega
    rcases hv5 with rfl | rfl
    · have e0 : p3 = 0 := e3
      rw [if_pos e0]
      exact good 0 0 (by omega) (by omega) (by omega) (fun _ => e0) 0 (by omega) (fun _ => rfl)
    · have e1 : p3 = 1 := e3
      rw [if_neg (show ¬ p3 = 0 by rw [e1]; decide), if_pos e1]
      exact good 1 0 (by omega) (by omega) (fun _ => e1) (by omega) 0 (by omega) (fun _ => rfl)
/-! kinds -/
def gb (W : Nat → Nat) (g : Nat → Int64) : Nat → Bool
  | 0 => true
  | i + 1 => gb W g i && decide ((nI (W (i + 1))).toInt64 = g i)
theorem gb_no {W : Nat → Nat} {g : Nat → Int64} {j : Nat} (h : gb W g j = false) : ∀ r, gb W g (j + r) = false
  | 0 => h
  | r + 1 => by
    show (gb W g (j + r) && _) = false
    rw [gb_no h r]
    rfl
theorem x_gs {s z kk x : Nat} {g : Nat → Int64} (hx : x_now S = (eH n c k w l d f wm hr b ch sd)) (h : HI n c k w l d f wm hr b ch) (hZ : Zh (x_trial S)) (hk : kk ≤ 5) (hC : isC n x) (hz : z ≤ 40) (hE : ∀ i, i < 40 → sh_elements (x_sh S s) i = g i) : ∃ T, Zh T ∧ fX4_goesSo (nI kk) (nI x) s (nI z) S = some (if gb (wk n d f wm b hr kk x) g z = true then (1 : Int32) else 0, xs_trial S T) := by
  have q : ∀ (r i fu : Nat), i + r = z → r < fu → gb (wk n d f wm b hr kk x) g i = true → ∃ T, Zh T ∧ fX4_goesSo_L17 (nI kk) (nI x) s (nI z) fu (nI (wk n d f wm b hr kk x i)) (nI i) (xs_trial S (eH n c k w l d f wm (hrs hr i) b ch sd)) = some (if gb (wk n d f wm b hr kk x) g z = true then (1 : Int32) else 0, xs_trial S T) := by
    intro r
    induction r with
    | zero =>
      intro i fu e hf hg
      obtain rfl : i = z := by omega
      cases fu with
      | zero => omega
      | succ fu =>
        refine ⟨_, (h.hour (t := i)).zh (sd := sd), ?_⟩
        unfold fX4_goesSo_L17
        rw [if_pos (nI_le (Nat.le_refl _) (by omega)), if_pos hg]
    | succ r ih =>
      intro i fu e hf hg
      cases fu with
      | zero => omega
      | succ fu =>
        have h40 : ¬ (40 : Int32) ≤ nI i := nI_ge (a := i) (b := 40) (by omega) (by omega)
        unfold fX4_goesSo_L17
        simp only [if_neg (nI_ge (show i < z by omega) (show z < 2 ^ 31 by omega)), if_neg h40, u_gd (show i < 40 by omega) (show 40 < 2 ^ 31 by decide), u_ix (show i < 2 ^ 31 by omega), xtg, xts, lg_cmp_eq]
        rw [xn h.hp.aft hk (wC h.hp hC), x_ph hrs_le]
        simp only [bs]
        rw [hE i (by omega), xtt, hrs_s, nI_1]
        by_cases q : (nI (wk n d f wm b hr kk x (i + 1))).toInt64 = g i
        · rw [if_pos (show (nI (nxt n d f wm b (hrs hr i) kk (wk n d f wm b hr kk x i))).toInt64 = g i from q)]
          exact ih (i + 1) fu (by omega) (by omega) (by rw [gb, hg, decide_eq_true q]; rfl)
        · rw [if_neg (show ¬ (nI (nxt n d f wm b (hrs hr i) kk (wk n d f wm b hr kk x i))).toInt64 = g i from q)]
          have z1 : gb (wk n d f wm b hr kk x) g (i + 1) = false := by rw [gb, hg, decide_eq_false q]; rfl
          have := gb_no z1 r
          rw [show i + 1 + r = z by omega] at this
          rw [this]
          exact ⟨_, (h.hour (t := i + 1)).zh (sd := sd), rfl⟩
  unfold fX4_goesSo
  rw [x_look hx h hZ]
  simp only [bs]
  have := q z 0 FU (by omega) (by show z < 1100; omega) rfl
  rw [hrs_0 h.hp.2.2.2.2.1] at this
  exact this
theorem m_gs {s z m : Nat} (h : HI n c k w l d f wm hr b ch) (hm : m < c) (hs : s < 8) (hz : z ≤ 40) : ∃ Q', fX5_goesSo (nI s) (nI z) (nI m) (eM n c k w l d f wm hr b ch sd P Q) = some (if gb (wk n d f wm b hr (k m) (l m)) (fun i => p_rowOf P (40 * s + i)) z = true then (1 : Int32) else 0, eM n c k w l d f wm hr b ch sd P Q') := by
  have hc := h.hc
  obtain ⟨Q', eq, hW⟩ := m_begins (n := n) (c := c) (k := k) (w := w) (l := l) (d := d) (f := f) (wm := wm) (hr := hr) (b := b) (ch := ch) (sd := sd) (P := P) (Q := Q)
  refine ⟨Q', ?_⟩
  unfold fX5_goesSo
  rw [eq]
  simp only [bs]
  have q : ∀ (r i fu : Nat), i + r = z → r < fu → fX5_goesSo_L10 (nI s) (nI z) (nI m) fu (if gb (wk n d f wm b hr (k m) (l m)) (fun i => p_rowOf P (40 * s + i)) i = true then (1 : Int32) else 0) (nI i) (eM n c k w (cl n c k l d f wm b hr i) d f wm (hrs hr i) b ch sd P Q') = some (if gb (wk n d f wm b hr (k m) (l m)) (fun i => p_rowOf P (40 * s + i)) z = true then (1 : Int32) else 0, eM n c k w l d f wm hr b ch sd P Q') := by
    intro r
    induction r with
    | zero =>
      intro i fu e hf
      obtain rfl : i = z := by omega
      cases fu with
      | zero => omega
      | succ fu =>
        unfold fX5_goesSo_L10
        rw [if_pos (nI_le (Nat.le_refl _) (by omega)), m_end h hW]
        simp only [bs]
        split
        · rfl
        · rfl
    | succ r ih =>
      intro i fu e hf
      cases fu with
      | zero => omega
      | succ fu =>
        have ih' := ih (i + 1) fu (by omega) (by omega)
        unfold fX5_goesSo_L10 fX5_goesSo_j41
        rw [if_neg (nI_ge (show i < z by omega) (by omega)), m_step h]
        simp only [bs, u_gd (show m < 10 by omega) (show 10 < 2 ^ 31 by decide), u_ix (show m < 2 ^ 31 by omega), f_n, f_motes, f_kind, f_own, f_cell, f_doors, f_ways, f_seed, lg_cmp_eq]
        rw [m_ta hs (by omega), nI_1]
        simp only [bs]
        rw [cl_in hm]
        by_cases q : (nI (wk n d f wm b hr (k m) (l m) (i + 1))).toInt64 = p_rowOf P (40 * s + i)
        · rw [if_pos q]
          rw [gb, decide_eq_true q, Bool.and_true] at ih'
          exact ih'
        · rw [if_neg q]
          rw [gb, decide_eq_false q, Bool.and_false] at ih'
          exact ih'
  have := q z 0 FU (by omega) (by show z < 1100; omega)
  rw [cl_0, hrs_0 h.hp.2.2.2.2.1] at this
  exact this
theorem un_un {a v x : Nat} : un (un k a v) a x = un k a x := by
  funext i
  unfold un
  split <;> rfl
theorem un_self {a : Nat} : un k a (k a) = k := by
  funext i
  unfold un
  split
  · next e => rw [e]
  · rfl
theorem HI.setk {m v : Nat} (h : HI n c k w l d f wm hr b ch) (hm : m < c) (hv : v ≤ 5) : HI n c (un k m v) w l d f wm hr b ch := HI.mk' h.hp h.hc (fun i hi => by
    have := h.m hi
    refine ⟨?_, this.2⟩
    unfold un
    split
    · exact hv
    · exact this.1) h.hch (fun i hi => by
    have := h.z hi
    refine ⟨?_, this.2⟩
    unfold un
    rw [if_neg (by have := h.hc; omega)]
    exact this.1)
theorem c_kinds (hR : Rel S M) : Out (fX4_kinds p1 p2 p3 S) (fX5_kinds p1 p2 p3 M) := by
  obtain ⟨n, c, k, w, l, d, f, wm, hr, b, ch, sd, P, Q, hx, rfl, h, hX⟩ := hR
  have hR := rel_s (Q := Q) hx h hX
  have hc := h.hc
  unfold fX4_kinds fX5_kinds fX5_kinds_j25 fX4_kinds_j21 fX4_kinds_j22
  have bad : Out ((fX4_rowRefusal p1 (0 : Int32) p2 S).bind fun q3 => if q3 = 0 then fX4_kinds_L46 p1 p2 p3 FU (0 : Int32) (0 : Int32) S else (fX4_refuse q3 S).bind fun q8 => some (q8.1, q8.2)) ((fX5_no (cI (-2)) (eM n c k w l d f wm hr b ch sd P Q)).bind fun q3 => some (q3.1, q3.2)) := by
    rw [rr0]
    simp only [bs, cn2, ↓reduceIte]
    exact out2 hR
  rcases shelf_cases p1 with ⟨a, a'⟩ | ⟨s, hs, rfl, a, a'⟩
  · rw [a']
    simp only [bs, ↓reduceIte]
    rw [rrn a, rrn a]
    simp only [bs, cn2, ↓reduceIte]
    rcases count_cases p2 with ⟨b', b''⟩ | ⟨z, hz, rfl, b', b''⟩
    · rw [b']
      simp only [bs, ↓reduceIte]
      exact out2 hR
    · rw [b']
      simp only [bs, one0, ↓reduceIte]
      rcases mote_cases (n := n) (k := k) (w := w) (l := l) (d := d) (f := f) (wm := wm) (hr := hr) (b := b) (ch := ch) (sd := sd) (P := P) (Q := Q) p3 hx hc with ⟨a, a'⟩ | ⟨m, hm, rfl, a, a'⟩
      · rw [a]
        simp only [bs, ↓reduceIte]
        exact out2 hR
      · rw [a]
        simp only [bs, one0, ↓reduceIte]
        exact out2 hR
  rw [a']
  simp only [bs, one0, ↓reduceIte]
  rcases count_cases p2 with ⟨b', b''⟩ | ⟨z, hz, rfl, b', b''⟩
  · rw [b', b'']
    simp only [bs, ↓reduceIte]
    exact bad
  rw [b', b'']
  simp only [bs, one0, ↓reduceIte]
  rcases mote_cases (n := n) (k := k) (w := w) (l := l) (d := d) (f := f) (wm := wm) (hr := hr) (b := b) (ch := ch) (sd := sd) (P := P) (Q := Q) p3 hx hc with ⟨a, a'⟩ | ⟨m, hm, rfl, a, a'⟩
  · rw [a, a']
    simp only [bs, ↓reduceIte]
    exact bad
  rw [a, a']
  simp only [bs, one0, ↓reduceIte]
  rcases told_cases (n := n) (k := k) (w := w) (l := l) (d := d) (f := f) (wm := wm) (hr := hr) (b := b) (ch := ch) (sd := sd) (Q := Q) hs hz hX hc with ⟨cd, j, hj, e1, e2, e3, e4, e5, e6⟩ | ⟨e5, e6, hE⟩
  · rw [e5, e6]
    simp only [bs, if_neg e3, if_neg e4]
    exact out_no hj e1 e2 hR
  rw [e5, e6]
  simp only [bs, i00, ↓reduceIte, u_gd (show m < 10 by omega) (show 10 < 2 ^ 31 by decide), u_ix (show m < 2 ^ 31 by omega), f_n, f_motes, f_kind, f_own, f_cell, f_doors, f_ways, f_seed]
  have q : ∀ (r kk fu : Nat) (a : Int32) (T : HallT) (k' : Nat → Nat) (Q : QT), kk + r = 6 → r < fu → Zh T → (∀ v, un k' m v = un k m v) → Out (fX4_kinds_L46 (nI s) (nI z) (nI m) fu a (nI kk) (xs_trial S T)) (fX5_kinds_L66 (nI s) (nI z) (nI m) fu (nI (k m)) a (nI kk) (eM n c k' w l d f wm hr b ch sd P Q)) := by
    intro r
    induction r with
    | zero =>
      intro kk fu a T k' Q e hf hT hk'
      obtain rfl : kk = 6 := by omega
      cases fu with
      | zero => omega
      | succ fu =>
        unfold fX4_kinds_L46 fX5_kinds_L66 fX5_kinds_j106
        rw [if_pos (show (5 : Int32) < nI 6 by decide), if_pos (show (6 : Int32) ≤ nI 6 by decide)]
        simp only [bs, u_gd (show m < 10 by omega) (show 10 < 2 ^ 31 by decide), u_ix (show m < 2 ^ 31 by omega), f_n, f_motes, f_kind, f_own, f_cell, f_doors, f_ways, f_seed, u_un, fs_kind]
        rw [hk', un_self]
        exact rel_e hx h hX hT rfl
    | succ r ih =>
      intro kk fu a T k' Q e hf hT hk'
      cases fu with
      | zero => omega
      | succ fu =>
        have n5 : ¬ (5 : Int32) < nI kk := nI_nlt (a := 5) (b := kk) (by omega) (by omega)
        have n6 : ¬ (6 : Int32) ≤ nI kk := nI_ge (a := kk) (b := 6) (by omega) (by omega)
        have h' := h.setk hm (show kk ≤ 5 by omega)
        unfold fX4_kinds_L46 fX5_kinds_L66 fX4_kinds_j89 fX5_kinds_j100
        simp only [if_neg n5, if_neg n6, bs, u_gd (show m < 10 by omega) (show 10 < 2 ^ 31 by decide), u_ix (show m < 2 ^ 31 by omega), u_gd hs (show 8 < 2 ^ 31 by decide), u_ix (show s < 2 ^ 31 by omega), f_n, f_motes, f_kind, f_own, f_cell, f_doors, f_ways, f_seed, u_un, fs_kind, xtn]
        rw [hk', nI_1, show h_cellOf (x_now S) = fun i => nI (l i) by rw [hx]; rfl]
        obtain ⟨T2, hT2, e2⟩ := x_gs (S := xs_trial S T) (s := s) (z := z) (kk := kk) (x := l m) (g := fun i => p_rowOf P (40 * s + i)) hx h hT (by omega) (h.m hm).2.2 hz hE
        obtain ⟨Q2, e3⟩ := m_gs (sd := sd) (P := P) (Q := Q) (s := s) (z := z) (m := m) h' hm hs hz
        rw [show un k m kk m = kk from if_pos rfl] at e3
        rw [e2, e3]
        simp only [bs]
        rw [xtt]
        by_cases hl : gb (wk n d f wm b hr kk (l m)) (fun i => p_rowOf P (40 * s + i)) z = true
        · simp only [if_pos hl, one0, ↓reduceIte]
          exact ih (kk + 1) fu _ T2 _ Q2 (by omega) (by omega) hT2 (fun v => un_un)
        · simp only [if_neg hl, ↓reduceIte]
          exact ih (kk + 1) fu _ T2 _ Q2 (by omega) (by omega) hT2 (fun v => un_un)
  exact q 6 0 FU 0 (x_trial S) k Q (by omega) (by show 6 < 1100; omega) hX.1.1 (fun v => rfl)
end C6
