/-! ===== pure layer: shelves, the hall told ===== -/
theorem cn2 : ¬ cI (-2) = 0 := by decide
theorem cn3 : ¬ cI (-3) = 0 := by decide
theorem cn4 : ¬ cI (-4) = 0 := by decide
theorem cn5 : ¬ cI (-5) = 0 := by decide
theorem cl2 : ¬ (0 : Int32) ≤ cI (-2) := by decide
theorem cl3 : ¬ (0 : Int32) ≤ cI (-3) := by decide
theorem cl4 : ¬ (0 : Int32) ≤ cI (-4) := by decide
theorem cl5 : ¬ (0 : Int32) ≤ cI (-5) := by decide
theorem i02 : ¬ (0 : Int32) = 2 := by decide
theorem i01 : ¬ (0 : Int32) = 1 := by decide
theorem i12 : ¬ (1 : Int32) = 2 := by decide
theorem i21 : ¬ (2 : Int32) = 1 := by decide
theorem i20 : ¬ (2 : Int32) = 0 := by decide
theorem i00 : (0 : Int32) ≤ 0 := by decide
section C1
variable {n c : Nat} {k w l : Nat → Nat} {d f wm hr b ch : Nat} {sd : Int32} {P : PT} {Q : QT} {S : XT} {M : MT} {p1 p2 p3 p4 p5 : Int32}
theorem es_side {v : Nat} : hs_side (eH n c k w l d f wm hr b ch sd) (nI v) = eH v c k w l d f wm hr b ch sd := id rfl
theorem es_count {v : Nat} : hs_count (eH n c k w l d f wm hr b ch sd) (nI v) = eH n v k w l d f wm hr b ch sd := id rfl
theorem es_kind {v : Nat → Nat} : hs_kindOf (eH n c k w l d f wm hr b ch sd) (fun i => nI (v i)) = eH n c v w l d f wm hr b ch sd := id rfl
theorem es_weight {v : Nat → Nat} : hs_weightOf (eH n c k w l d f wm hr b ch sd) (fun i => nI (v i)) = eH n c k v l d f wm hr b ch sd := id rfl
theorem es_cell {v : Nat → Nat} : hs_cellOf (eH n c k w l d f wm hr b ch sd) (fun i => nI (v i)) = eH n c k w v d f wm hr b ch sd := id rfl
theorem es_doors {v : Nat} : hs_doors (eH n c k w l d f wm hr b ch sd) (nI v) = eH n c k w l v f wm hr b ch sd := id rfl
theorem es_fan {v : Nat} : hs_fan (eH n c k w l d f wm hr b ch sd) (nI v) = eH n c k w l d v wm hr b ch sd := id rfl
theorem es_warm {v : Nat} : hs_warmth (eH n c k w l d f wm hr b ch sd) (nI v) = eH n c k w l d f v hr b ch sd := id rfl
theorem es_hour {v : Nat} : hs_hour (eH n c k w l d f wm hr b ch sd) (nI v) = eH n c k w l d f wm v b ch sd := id rfl
theorem es_beam {v : Nat} : hs_beam (eH n c k w l d f wm hr b ch sd) (nI v) = eH n c k w l d f wm hr v ch sd := id rfl
theorem es_chance {v : Nat} : hs_chance (eH n c k w l d f wm hr b ch sd) (nI v) = eH n c k w l d f wm hr b v sd := id rfl
theorem es_seed {v : Int32} : hs_seed (eH n c k w l d f wm hr b ch sd) v = eH n c k w l d f wm hr b ch v := id rfl
theorem xsh {s : Nat} (hs : s < 8) : fX4_isShelf (nI s) = some 1 := by
  unfold fX4_isShelf
  rw [if_neg (nI_pos (by omega)), if_neg (show ¬ (8 : Int32) ≤ nI s from nI_ge (a := s) (b := 8) (by omega) (by omega))]
theorem xrr {s : Nat} (hs : s < 8) : fX4_rowRefusal (nI s) (1 : Int32) p3 S = if sh_held (x_sh S s) = (2 : Int32) then some (cI (-3)) else if sh_held (x_sh S s) = (1 : Int32) then (if p3 ≤ sh_size (x_sh S s) then some (0 : Int32) else some (cI (-2))) else some (cI (-4)) := by
  unfold fX4_rowRefusal
  rw [xsh hs]
  simp only [bs, one0, ↓reduceIte, u_gd hs (show 8 < 2 ^ 31 by decide), u_ix (show s < 2 ^ 31 by omega)]
theorem place_cases {V : ShT} {sz : Nat} (p : Int32) (e : sh_size V = nI sz) (hz : sz ≤ 40) : (fX2_hasPlace p V = some 0 ∧ fX5_within p (0 : Int32) (nI sz - (1 : Int32)) = some 0) ∨ ∃ i, i < sz ∧ p = nI i ∧ fX2_hasPlace p V = some 1 ∧ fX5_within p (0 : Int32) (nI sz - (1 : Int32)) = some 1 := by
  unfold fX2_hasPlace fX5_within
  rw [e]
  by_cases h : p < 0
  · exact Or.inl ⟨by rw [if_pos h], by rw [if_pos h]⟩
  · obtain ⟨j, hj, rfl⟩ := nI_of h
    by_cases q : j < sz
    · refine Or.inr ⟨j, q, rfl, ?_, ?_⟩
      · rw [if_neg h, if_neg (nI_ge q (by omega)), if_neg (show ¬ (40 : Int32) ≤ nI j from nI_ge (a := j) (b := 40) (by omega) (by omega))]
      · rw [if_neg h, show nI sz - (1 : Int32) = nI (sz - 1) from pk_sub (a := sz) (b := 1) (by omega), if_neg (nI_nlt (by omega) (by omega))]
    · refine Or.inl ⟨?_, ?_⟩
      · rw [if_neg h, if_pos (nI_le (by omega) (by omega))]
      · rw [if_neg h]
        by_cases h0 : sz = 0
        · subst h0
          have : nI 0 - (1 : Int32) < nI j := by
            apply Int32.lt_iff_toInt_lt.mpr
            rw [nI_toInt hj, show (nI 0 - (1 : Int32)).toInt = -1 by decide]
            omega
          rw [if_pos this]
        · rw [show nI sz - (1 : Int32) = nI (sz - 1) from pk_sub (a := sz) (b := 1) (by omega), if_pos (nI_lt (by omega) (by omega))]
theorem kept_eq (p : Int32) (v : Int64) : ∃ y, fX4_narrowed p v = some y ∧ fX5_kept p v = some y := by
  unfold fX4_narrowed fX5_kept
  by_cases h0 : p = 0
  · exact ⟨_, if_pos h0, if_pos h0⟩
  rw [if_neg h0]
  by_cases h1 : p = 1
  · exact ⟨_, if_pos h1, if_pos h1⟩
  rw [if_neg h1]
  by_cases h2 : p = 2
  · exact ⟨_, if_pos h2, if_pos h2⟩
  rw [if_neg h2]
  by_cases h3 : p = 3
  · exact ⟨_, if_pos h3, if_pos h3⟩
  rw [if_neg h3]
  by_cases h4 : lg_cmp v 0 = 0
  · exact ⟨_, if_pos h4, if_pos h4⟩
  · exact ⟨_, if_neg h4, if_neg h4⟩
theorem c_set {v : Int64} (hR : Rel S M) : Out (fX4_set p1 p2 v S) (fX5_set p1 p2 v M) := by
  obtain ⟨n, c, k, w, l, d, f, wm, hr, b, ch, sd, P, Q, hx, rfl, h, hX⟩ := hR
  have hR := rel_s (Q := Q) hx h hX
  have hc := h.hc
  unfold fX4_set fX5_set
  rcases shelf_cases p1 with ⟨a, a'⟩ | ⟨s, hs, rfl, a, a'⟩
  · have e : fX4_rowRefusal p1 (1 : Int32) (0 : Int32) S = some (cI (-2)) := by
      unfold fX4_rowRefusal
      rw [a]
      rfl
    rw [e, a']
    simp only [bs, cn2, ↓reduceIte]
    exact out2 hR
  rw [xrr hs, a']
  rcases row_cases (n := n) (k := k) (w := w) (l := l) (d := d) (f := f) (wm := wm) (hr := hr) (b := b) (ch := ch) (sd := sd) (Q := Q) hs hX hc with ⟨q1, q2, q3, q4⟩ | ⟨q1, m, hm, q2, q3, q4, q5⟩ | ⟨q1, st, hst, sz, hsz, q2, q3, q4, q5, q6, q7⟩
  · simp only [q1, i02, i01, ↓reduceIte, bs, one0, q3, q4, cn4]
    exact out4 hR
  · simp only [q1, ↓reduceIte, bs, one0, q4, q5, cn3]
    exact out3 hR
  · rw [if_neg (by rw [q1]; decide), if_pos q1, q4, if_pos (show (0 : Int32) ≤ nI sz from nI_pos' (by omega))]
    simp only [bs, one0, ↓reduceIte, q7, u_gd hs (show 8 < 2 ^ 31 by decide), u_ix (show s < 2 ^ 31 by omega), f_rowLength, f_holding, q5, q3, q2]
    rcases place_cases p2 q4 hsz with ⟨b1, b2⟩ | ⟨i, hi, rfl, b1, b2⟩
    · rw [b1, b2]
      simp only [bs, ↓reduceIte]
      exact out2 hR
    rw [b1, b2]
    simp only [bs, one0, ↓reduceIte]
    obtain ⟨y, y1, y2⟩ := kept_eq (nI st) v
    rw [y1, y2]
    simp only [bs, u_gd (show i < 40 by omega) (show 40 < 2 ^ 31 by decide), u_ix (show i < 2 ^ 31 by omega)]
    rw [show (40 : Int32) * nI s = nI (40 * s) from pk_mul 40 s, nI_add, u_gd (show 40 * s + i < 320 by omega) (by decide), u_ix (by omega), f_rowOf, fs_rowOf]
    refine ⟨1, _, _, rfl, rfl, rel_s (S := xs_sh S _) hx h (RX.sh hX rfl rfl rfl rfl rfl (fun t ht => ?_))⟩
    by_cases e : t = s
    · subst e
      rw [va_up_self]
      refine Or.inr (Or.inl ⟨q1, ⟨st, hst, q2, q3⟩, ⟨sz, hsz, q4, q5⟩, fun j hj => ?_⟩)
      show vp_updL (sh_elements (x_sh S t)) i y j = vp_updL (p_rowOf P) (40 * t + i) y (40 * t + j)
      by_cases e : j = i
      · subst e
        rw [pk_uLs, pk_uLs]
      · rw [pk_uLn e, pk_uLn (by omega), q6 j hj]
    · rw [va_up_ne _ _ e]
      rcases hX.2.1 t ht with r | ⟨r1, r2, r3, r4⟩ | r
      · exact Or.inl r
      · exact Or.inr (Or.inl ⟨r1, r2, r3, fun j hj => by
          rw [r4 j hj]
          exact (pk_uLn (by omega)).symm⟩)
      · exact Or.inr (Or.inr r)
theorem c_element (hR : Rel S M) : ∃ r, fX4_element p1 p2 S = some r ∧ fX5_element p1 p2 M = some r := by
  obtain ⟨n, c, k, w, l, d, f, wm, hr, b, ch, sd, P, Q, hx, rfl, h, hX⟩ := hR
  have hc := h.hc
  unfold fX4_element fX5_element
  rcases shelf_cases p1 with ⟨a, a'⟩ | ⟨s, hs, rfl, a, a'⟩
  · rw [a, a']
    exact ⟨0, rfl, rfl⟩
  rw [a, a']
  rcases row_cases (n := n) (k := k) (w := w) (l := l) (d := d) (f := f) (wm := wm) (hr := hr) (b := b) (ch := ch) (sd := sd) (Q := Q) hs hX hc with ⟨q1, q2, q3, q4⟩ | ⟨q1, m, hm, q2, q3, q4, q5⟩ | ⟨q1, st, hst, sz, hsz, q2, q3, q4, q5, q6, q7⟩
  · simp only [bs, one0, ↓reduceIte, u_gd hs (show 8 < 2 ^ 31 by decide), u_ix (show s < 2 ^ 31 by omega), q1, q3, i01]
    exact ⟨0, rfl, rfl⟩
  · simp only [bs, one0, ↓reduceIte, u_gd hs (show 8 < 2 ^ 31 by decide), u_ix (show s < 2 ^ 31 by omega), q1, q4, i21]
    exact ⟨0, rfl, rfl⟩
  · simp only [bs, one0, ↓reduceIte, u_gd hs (show 8 < 2 ^ 31 by decide), u_ix (show s < 2 ^ 31 by omega), q1, q7, f_rowLength, q5]
    rcases place_cases p2 q4 hsz with ⟨b1, b2⟩ | ⟨i, hi, rfl, b1, b2⟩
    · rw [b1, b2]
      exact ⟨0, rfl, rfl⟩
    rw [b1, b2]
    simp only [bs, one0, ↓reduceIte, u_gd (show i < 40 by omega) (show 40 < 2 ^ 31 by decide), u_ix (show i < 2 ^ 31 by omega)]
    rw [show (40 : Int32) * nI s = nI (40 * s) from pk_mul 40 s, nI_add, u_gd (show 40 * s + i < 320 by omega) (by decide), u_ix (by omega), f_rowOf, q6 i (by omega)]
    exact ⟨_, rfl, rfl⟩
theorem c_holds (hR : Rel S M) : ∃ r, fX4_holds p1 S = some r ∧ fX5_holds p1 M = some r := by
  obtain ⟨n, c, k, w, l, d, f, wm, hr, b, ch, sd, P, Q, hx, rfl, h, hX⟩ := hR
  have hc := h.hc
  unfold fX4_holds fX5_holds
  rcases shelf_cases p1 with ⟨a, a'⟩ | ⟨s, hs, rfl, a, a'⟩
  · rw [a, a']
    exact ⟨_, rfl, rfl⟩
  rw [a, a']
  simp only [bs, one0, ↓reduceIte, u_gd hs (show 8 < 2 ^ 31 by decide), u_ix (show s < 2 ^ 31 by omega), f_holding]
  rcases row_cases (n := n) (k := k) (w := w) (l := l) (d := d) (f := f) (wm := wm) (hr := hr) (b := b) (ch := ch) (sd := sd) (Q := Q) hs hX hc with ⟨q1, q2, q3, q4⟩ | ⟨q1, m, hm, q2, q3, q4, q5⟩ | ⟨q1, st, hst, sz, hsz, q2, q3, q4, q5, q6, q7⟩
  · rw [if_neg (by rw [q1]; decide), if_neg (by rw [q1]; decide), q2]
    exact ⟨_, rfl, rfl⟩
  · rw [if_neg (by rw [q1]; decide), if_pos q1, q2, q3]
    exact ⟨_, rfl, congrArg some (nI_add 10 m).symm⟩
  · rw [if_pos q1, q2, q3]
    exact ⟨_, rfl, rfl⟩
theorem c_show (hR : Rel S M) : Out (fX4_show p1 p2 S) (fX5_show p1 p2 M) := by
  obtain ⟨n, c, k, w, l, d, f, wm, hr, b, ch, sd, P, Q, hx, rfl, h, hX⟩ := hR
  have hR := rel_s (Q := Q) hx h hX
  have hc := h.hc
  unfold fX4_show fX5_show fX4_show_j20 fX5_show_j20
  rcases shelf_cases p1 with ⟨a, a'⟩ | ⟨s, hs, rfl, a, a'⟩
  · rw [a, a']
    simp only [bs, ↓reduceIte]
    exact out2 hR
  rw [a, a']
  simp only [bs, one0, ↓reduceIte]
  have key : ∀ (V : ShT) (ho : Int32), ShR V ho (p_rowLength P s) (fun i => p_rowOf P (40 * s + i)) c → Rel (xs_sh S (va_up (x_sh S) s V)) (eM n c k w l d f wm hr b ch sd (ps_holding P (upd (p_holding P) s ho)) Q) := by
    intro V ho hV
    refine rel_s (S := xs_sh S _) hx h (RX.sh hX rfl rfl rfl rfl rfl (fun t ht => ?_))
    by_cases e : t = s
    · subst e
      rw [va_up_self, show p_holding (ps_holding P (upd (p_holding P) t ho)) t = ho from pk_us]
      exact hV
    · rw [va_up_ne _ _ e, show p_holding (ps_holding P (upd (p_holding P) s ho)) t = p_holding P t from pk_un e]
      exact hX.2.1 t ht
  by_cases hm1 : p2 = cI (-1)
  · rw [if_pos hm1, if_pos hm1]
    unfold fX4_show_j27 fX5_show_j27 fX5_show_j45 fX2_clear
    rw [if_pos hm1, if_pos hm1]
    simp only [bs, u_gd hs (show 8 < 2 ^ 31 by decide), u_ix (show s < 2 ^ 31 by omega), f_holding]
    rw [fs_holding]
    exact ⟨1, _, _, rfl, rfl, key _ _ (Or.inl ⟨rfl, rfl⟩)⟩
  · rw [if_neg hm1, if_neg hm1]
    rcases mote_cases (n := n) (k := k) (w := w) (l := l) (d := d) (f := f) (wm := wm) (hr := hr) (b := b) (ch := ch) (sd := sd) (P := P) (Q := Q) p2 hx hc with ⟨a, a'⟩ | ⟨m, hm, rfl, a, a'⟩
    · rw [a, a']
      simp only [bs, ↓reduceIte]
      exact out2 hR
    rw [a, a']
    simp only [bs, one0, ↓reduceIte]
    unfold fX4_show_j27 fX5_show_j27 fX5_show_j45 fX2_takeMote
    rw [if_neg hm1, if_neg hm1]
    simp only [bs, u_gd hs (show 8 < 2 ^ 31 by decide), u_ix (show s < 2 ^ 31 by omega), f_holding]
    rw [fs_holding]
    exact ⟨1, _, _, rfl, rfl, key _ _ (Or.inr (Or.inr ⟨rfl, m, hm, rfl, nI_add 10 m⟩))⟩
theorem under_eq : ∀ a, a < 6 → ∀ q, q < 6 → fX4_isUnder (nI a) (nI q) = fX5_isUnder (nI a) (nI q) ∧ (fX5_isUnder (nI a) (nI q) = some 0 ∨ fX5_isUnder (nI a) (nI q) = some 1) := by decide +kernel
theorem c_says (hR : Rel S M) : Out (fX4_says p1 p2 S) (fX5_says p1 p2 M) := by
  obtain ⟨n, c, k, w, l, d, f, wm, hr, b, ch, sd, P, Q, hx, rfl, h, hX⟩ := hR
  have hR := rel_s (Q := Q) hx h hX
  have hc := h.hc
  unfold fX4_says fX5_says fX4_says_j14 fX5_says_j16 fX4_says_j62
  rcases shelf_cases p1 with ⟨a, a'⟩ | ⟨s, hs, rfl, a, a'⟩
  · rw [a, a']
    simp only [bs, ↓reduceIte]
    exact out2 hR
  rw [a, a']
  simp only [bs, one0, ↓reduceIte]
  rcases kind_cases p2 with ⟨a, a'⟩ | ⟨q, hq, rfl, a, a'⟩
  · rw [a, a']
    simp only [bs, ↓reduceIte]
    exact out2 hR
  rw [a, a']
  simp only [bs, one0, ↓reduceIte, u_gd hs (show 8 < 2 ^ 31 by decide), u_ix (show s < 2 ^ 31 by omega), f_holding]
  rcases row_cases (n := n) (k := k) (w := w) (l := l) (d := d) (f := f) (wm := wm) (hr := hr) (b := b) (ch := ch) (sd := sd) (Q := Q) hs hX hc with ⟨q1, q2, q3, q4⟩ | ⟨q1, m, hm, q2, q3, q4, q5⟩ | ⟨q1, st, hst, sz, hsz, q2, q3, q4, q5, q6, q7⟩
  · rw [if_neg (by rw [q1]; decide), if_neg (by rw [q1]; decide), q3, q2]
    simp only [bs, ↓reduceIte]
    rw [if_neg (by decide)]
    exact out4 hR
  · rw [if_neg (by rw [q1]; decide), if_pos q1, q4, q2, q3]
    simp only [bs, ↓reduceIte]
    rw [show nI (10 + m) - (10 : Int32) = nI (10 + m - 10) from pk_sub (a := 10 + m) (b := 10) (by omega), show 10 + m - 10 = m by omega, if_pos (show (0 : Int32) ≤ nI (10 + m) from nI_pos' (by omega))]
    have em : fX4_isMote (nI m) S = some 1 := by
      unfold fX4_isMote
      rw [hx, e_count, if_neg (nI_pos (by omega)), if_neg (nI_ge hm (by omega))]
    rw [em, hx]
    obtain ⟨k5, w9, hC⟩ := h.m hm
    simp only [bs, one0, ↓reduceIte, u_gd (show m < 10 by omega) (show 10 < 2 ^ 31 by decide), u_ix (show m < 2 ^ 31 by omega), e_side, e_count, e_kind, e_weight, e_cell, e_doors, e_fan, e_warm, e_hour, e_beam, e_chance, e_seed, f_n, f_motes, f_kind, f_own, f_cell, f_doors, f_ways, f_seed]
    obtain ⟨u1, u2⟩ := under_eq (k m) (by omega) q (by omega)
    rw [u1]
    rcases u2 with u2 | u2
    · rw [u2]
      simp only [bs, ↓reduceIte]
      exact out3 hR
    · rw [u2]
      simp only [bs, one0, ↓reduceIte]
      by_cases hq0 : nI q = 0
      · rw [if_pos hq0, if_pos hq0]
        exact ⟨_, _, _, rfl, rfl, hR⟩
      · rw [if_neg hq0, if_neg hq0, xn h.hp k5 hC, m_goes h.hp k5 hC]
        exact ⟨_, _, _, rfl, rfl, hR⟩
  · rw [if_pos q1, q7]
    simp only [bs, one0, ↓reduceIte]
    exact out3 hR
end C1
