/-! ===== pure layer: what comes of it, all set as it is ===== -/
theorem n24 {t : Nat} (h : t ≤ 24) : ¬ (24 : Int32) < nI t := nI_nlt (a := 24) (b := t) h (by omega)
theorem y24 : (24 : Int32) < nI 25 := by decide
theorem m1n {t : Nat} (h : t < 2 ^ 31) : ¬ nI t = cI (-1) := fun e => by
  have := nI_pos h
  rw [e] at this
  exact this (by decide)
section C3
variable {n c : Nat} {k w l : Nat → Nat} {d f wm hr b ch : Nat} {sd : Int32} {P : PT} {Q : QT} {S : XT} {M : MT} {p1 p2 p3 p4 p5 : Int32}
theorem xtg {A : HallT} : x_trial (xs_trial S A) = A := id rfl
theorem xtn {A : HallT} : x_now (xs_trial S A) = x_now S := id rfl
theorem xts {A : HallT} : x_sh (xs_trial S A) = x_sh S := id rfl
theorem xtt {A B : HallT} : xs_trial (xs_trial S A) B = xs_trial S B := id rfl
theorem rel_t {t : Nat} (hx : x_now S = (eH n c k w l d f wm hr b ch sd)) (h : HI n c k w l d f wm hr b ch) (hX : RX S P c) : Rel (xs_trial S (eH n c k w (cl n c k l d f wm b hr t) d f wm (hrs hr t) b ch sd)) (eM n c k w l d f wm hr b ch sd P Q) := rel_q hx h hX (h.after (t := t)).zh
theorem rel_e {r : Int32} {T : HallT} {Q' : QT} {o : Option (Int32 × MT)} (hx : x_now S = (eH n c k w l d f wm hr b ch sd)) (h : HI n c k w l d f wm hr b ch) (hX : RX S P c) (hT : Zh T) (e : o = some (r, eM n c k w l d f wm hr b ch sd P Q')) : Out (some (r, xs_trial S T)) o := ⟨r, _, _, rfl, e, rel_q hx h hX hT⟩
theorem x_la {t : Nat} (hx : x_now S = (eH n c k w l d f wm hr b ch sd)) (h : HI n c k w l d f wm hr b ch) (hZ : Zh (x_trial S)) (ht : t ≤ 24) : fX4_lookAhead (nI t) S = some (xs_trial S (eH n c k w (cl n c k l d f wm b hr t) d f wm (hrs hr t) b ch sd)) := by
  unfold fX4_lookAhead
  rw [x_look hx h hZ]
  simp only [bs]
  rw [x_goOn h (by omega)]
  rfl
theorem m_adv {t : Nat} {β : Type} {F : MT → Option β} (h : HI n c k w l d f wm hr b ch) (ht : t < 1000) : (if nI t ≤ 0 then F (eM n c k w (cl n c k l d f wm b hr (t - 1)) d f wm (hrs hr (t - 1)) b ch sd P Q) else (fX5_step (eM n c k w (cl n c k l d f wm b hr (t - 1)) d f wm (hrs hr (t - 1)) b ch sd P Q)).bind F) = F (eM n c k w (cl n c k l d f wm b hr t) d f wm (hrs hr t) b ch sd P Q) := by
  cases t with
  | zero => rw [if_pos (by decide)]
  | succ t =>
    rw [if_neg (nI_nle (by omega) (by omega)), show t + 1 - 1 = t from rfl, m_step h]
    rfl
theorem m_end {t : Nat} (h : HI n c k w l d f wm hr b ch) (hW : Wa Q l hr) : fX5_ends (eM n c k w (cl n c k l d f wm b hr t) d f wm (hrs hr t) b ch sd P Q) = some (eM n c k w l d f wm hr b ch sd P Q) := m_ends hW (cl_z h)
theorem c_votes (hR : Rel S M) : Out (fX4_votes p1 p2 S) (fX5_votes p1 p2 M) := by
  obtain ⟨n, c, k, w, l, d, f, wm, hr, b, ch, sd, P, Q, hx, rfl, h, hX⟩ := hR
  have hR := rel_s (Q := Q) hx h hX
  unfold fX4_votes fX5_votes fX4_votes_j16 fX5_votes_j16 fX5_votes_j63
  rcases time_cases p1 with ⟨a, a'⟩ | ⟨t, ht, rfl, a, a'⟩
  · rw [a, a']
    simp only [bs, ↓reduceIte]
    exact out2 hR
  rw [a, a', x_la hx h hX.1.1 ht]
  simp only [bs, one0, ↓reduceIte]
  rcases wi_cases (N := 2) (2 : Int32) p2 rfl (by decide) with ⟨e, h1 | ⟨h1, h2, h3⟩⟩ | ⟨v, hv, rfl, h1, h2, h3, e⟩
  · rw [e, if_pos h1]
    simp only [bs, ↓reduceIte]
    exact out2 hR
  · rw [e, if_neg h1, if_neg h3]
    simp only [bs, ↓reduceIte]
    exact out2 hR
  obtain ⟨Q', eq, hW⟩ := m_goesOn (sd := sd) (P := P) (Q := Q) h (show t ≤ 1000 by omega)
  rw [e, if_neg h1, if_pos h3, eq]
  simp only [bs, one0, ↓reduceIte, xtg]
  rw [x_lw h.after, x_car h.after, x_lc h.after, m_vn h.after, m_dc h.after, m_ln h.after, m_end h hW]
  have hv5 : v = 0 ∨ v = 1 ∨ v = 2 := by omega
  rcases hv5 with rfl | rfl | rfl
  · simp (decide := true) only [↓reduceIte, bs]
    exact rel_e hx h hX h.after.zh rfl
  · simp (decide := true) only [↓reduceIte, bs]
    unfold fX4_bit
    split
    · simp only [one0, ↓reduceIte, bs]
      exact rel_e hx h hX h.after.zh rfl
    · simp only [↓reduceIte, bs]
      exact rel_e hx h hX h.after.zh rfl
  · simp (decide := true) only [↓reduceIte, bs]
    exact rel_e hx h hX h.after.zh rfl
theorem c_crowd (hR : Rel S M) : Out (fX4_crowd p1 p2 S) (fX5_crowd p1 p2 M) := by
  obtain ⟨n, c, k, w, l, d, f, wm, hr, b, ch, sd, P, Q, hx, rfl, h, hX⟩ := hR
  have hR := rel_s (Q := Q) hx h hX
  unfold fX4_crowd fX5_crowd fX4_crowd_j18 fX5_crowd_j15
  rw [show fX1_isCell p1 (x_now S) = fX1_isCell p1 (eH n c k w l d f wm hr b ch sd) by rw [hx]]
  rcases cell_cases (c := c) (k := k) (w := w) (l := l) (d := d) (f := f) (wm := wm) (hr := hr) (b := b) (ch := ch) (sd := sd) (P := P) (Q := Q) p1 h.hp.1.1 h.hp.1.2 with ⟨a, a'⟩ | ⟨x, hC, rfl, a, a'⟩
  · rw [a, a']
    simp only [bs, ↓reduceIte]
    exact out2 hR
  rw [a, a']
  simp only [bs, one0, ↓reduceIte]
  rcases time_cases p2 with ⟨a, a'⟩ | ⟨t, ht, rfl, a, a'⟩
  · rw [a, a']
    simp only [bs, ↓reduceIte]
    exact out2 hR
  have h67 := isC_lt h.hp.1.2 hC
  obtain ⟨Q', eq, hW⟩ := m_goesOn (sd := sd) (P := P) (Q := Q) h (show t ≤ 1000 by omega)
  rw [a, a', x_la hx h hX.1.1 ht, eq]
  simp only [bs, one0, ↓reduceIte, xtg]
  rw [x_cin h.after (by omega), m_cr h.after (by omega), m_end h hW]
  exact rel_e hx h hX h.after.zh rfl
theorem wall_eq {x : Nat} (hn : 6 ≤ n) (hn' : n ≤ 7) : (∃ y, fX1_isAtWall (nI x) (eH n c k w l d f wm hr b ch sd) = some y ∧ fX5_isWalled (nI x) (eM n c k w l d f wm hr b ch sd P Q) = some y ∧ (y = 0 ∨ y = 1)) := by
  unfold fX1_isAtWall fX5_isWalled
  simp only [e_side, e_count, e_kind, e_weight, e_cell, e_doors, e_fan, e_warm, e_hour, e_beam, e_chance, e_seed, f_n, f_motes, f_kind, f_own, f_cell, f_doors, f_ways, f_seed]
  by_cases h1 : nI x / (10 : Int32) = 0
  · exact ⟨1, by rw [if_pos h1], by rw [if_pos h1], Or.inr rfl⟩
  rw [if_neg h1, if_neg h1]
  by_cases h2 : nI x / (10 : Int32) = nI n - (1 : Int32)
  · rw [if_pos h2, if_pos h2]
    exact ⟨1, rfl, by split <;> rfl, Or.inr rfl⟩
  rw [if_neg h2, if_neg h2]
  by_cases h3 : irm (nI x) (10 : Int32) = 0
  · exact ⟨1, by rw [if_pos h3], by rw [if_pos h3], Or.inr rfl⟩
  rw [if_neg h3]
  by_cases h4 : irm (nI x) (10 : Int32) = nI n - (1 : Int32)
  · exact ⟨1, by rw [if_pos h4], by rw [if_pos h4], Or.inr rfl⟩
  · exact ⟨0, by rw [if_neg h4], by rw [if_neg h4], Or.inl rfl⟩
theorem c_walled (hR : Rel S M) : Out (fX4_walled p1 S) (fX5_walled p1 M) := by
  obtain ⟨n, c, k, w, l, d, f, wm, hr, b, ch, sd, P, Q, hx, rfl, h, hX⟩ := hR
  have hR := rel_s (Q := Q) hx h hX
  have hc := h.hc
  unfold fX4_walled fX5_walled
  rcases time_cases p1 with ⟨a, a'⟩ | ⟨t, ht, rfl, a, a'⟩
  · rw [a, a']
    simp only [bs, ↓reduceIte]
    exact out2 hR
  obtain ⟨Q', eq, hW⟩ := m_goesOn (sd := sd) (P := P) (Q := Q) h (show t ≤ 1000 by omega)
  rw [a, a', x_la hx h hX.1.1 ht, eq]
  simp only [bs, one0, ↓reduceIte]
  have q : ∀ (r j fu : Nat) (a : Int32), j + r = c → r < fu → Out (fX4_walled_L23 (nI t) fu a (nI j) (xs_trial S (eH n c k w (cl n c k l d f wm b hr t) d f wm (hrs hr t) b ch sd))) (fX5_walled_L23 (nI t) fu a (nI j) (eM n c k w (cl n c k l d f wm b hr t) d f wm (hrs hr t) b ch sd P Q')) := by
    intro r
    induction r with
    | zero =>
      intro j fu a e hf
      obtain rfl : j = c := by omega
      cases fu with
      | zero => omega
      | succ fu =>
        unfold fX4_walled_L23 fX5_walled_L23
        simp only [xtg, e_side, e_count, e_kind, e_weight, e_cell, e_doors, e_fan, e_warm, e_hour, e_beam, e_chance, e_seed, f_n, f_motes, f_kind, f_own, f_cell, f_doors, f_ways, f_seed, if_pos (nI_le (Nat.le_refl j) (show j < 2 ^ 31 by omega))]
        rw [m_end h hW]
        exact rel_e hx h hX h.after.zh rfl
    | succ r ih =>
      intro j fu a e hf
      cases fu with
      | zero => omega
      | succ fu =>
        have hj : j < c := by omega
        obtain ⟨y, y1, y2, y3⟩ := wall_eq (c := c) (k := k) (w := w) (l := cl n c k l d f wm b hr t) (d := d) (f := f) (wm := wm) (hr := hrs hr t) (b := b) (ch := ch) (sd := sd) (P := P) (Q := Q') (x := cl n c k l d f wm b hr t j) h.hp.1.1 h.hp.1.2
        unfold fX4_walled_L23 fX5_walled_L23 fX5_walled_j47 fX4_bit
        simp only [xtg, e_side, e_count, e_kind, e_weight, e_cell, e_doors, e_fan, e_warm, e_hour, e_beam, e_chance, e_seed, f_n, f_motes, f_kind, f_own, f_cell, f_doors, f_ways, f_seed, if_neg (nI_ge hj (show c < 2 ^ 31 by omega)), u_gd (show j < 10 by omega) (show 10 < 2 ^ 31 by decide), u_ix (show j < 2 ^ 31 by omega)]
        rw [y1, y2]
        simp only [bs]
        rw [nI_1]
        rcases y3 with rfl | rfl
        · simp only [↓reduceIte, bs]
          rw [Int32.add_zero]
          exact ih (j + 1) fu _ (by omega) (by omega)
        · simp only [one0, ↓reduceIte, bs]
          exact ih (j + 1) fu _ (by omega) (by omega)
  exact q c 0 FU 0 (by omega) (by show c < 1100; omega)
theorem x_walkL {m x t : Nat} (h : HI n c k w l d f wm hr b ch) (hm : m < c) (hC : isC n x) (ht : t ≤ 24) : ∀ (r i fu : Nat), i + r = t → r < fu → fX4_walked_L17 (nI m) p2 (nI t) fu (nI (wk n d f wm b hr (k m) x i)) (nI i) (xs_trial S (eH n c k w l d f wm (hrs hr i) b ch sd)) = some (nI (wk n d f wm b hr (k m) x t), xs_trial S (eH n c k w l d f wm (hrs hr t) b ch sd)) := by
  have hc := h.hc
  intro r
  induction r with
  | zero =>
    intro i fu e hf
    obtain rfl : i = t := by omega
    cases fu with
    | zero => omega
    | succ fu =>
      unfold fX4_walked_L17
      rw [if_pos (nI_le (Nat.le_refl _) (by omega))]
  | succ r ih =>
    intro i fu e hf
    cases fu with
    | zero => omega
    | succ fu =>
      unfold fX4_walked_L17
      simp only [if_neg (nI_ge (show i < t by omega) (show t < 2 ^ 31 by omega)), u_gd (show m < 10 by omega) (show 10 < 2 ^ 31 by decide), u_ix (show m < 2 ^ 31 by omega), xtg, e_side, e_count, e_kind, e_weight, e_cell, e_doors, e_fan, e_warm, e_hour, e_beam, e_chance, e_seed]
      rw [xn h.hp.aft (h.m hm).1 (wC h.hp hC), x_ph hrs_le]
      simp only [bs]
      rw [xtt, hrs_s, nI_1]
      exact ih (i + 1) fu (by omega) (by omega)
theorem x_walked {m x t : Nat} (hx : x_now S = (eH n c k w l d f wm hr b ch sd)) (h : HI n c k w l d f wm hr b ch) (hZ : Zh (x_trial S)) (hm : m < c) (hC : isC n x) (ht : t ≤ 24) : fX4_walked (nI m) (nI x) (nI t) S = some (nI (wk n d f wm b hr (k m) x t), xs_trial S (eH n c k w l d f wm (hrs hr t) b ch sd)) := by
  unfold fX4_walked
  rw [x_look hx h hZ]
  simp only [bs]
  have := x_walkL (S := S) (p2 := nI x) (sd := sd) h hm hC ht t 0 FU (by omega) (by show t < 1100; omega)
  rw [hrs_0 h.hp.2.2.2.2.1] at this
  exact this
theorem HI.hour {t : Nat} (h : HI n c k w l d f wm hr b ch) : HI n c k w l d f wm (hrs hr t) b ch := h.par h.hp.aft
theorem c_where (hR : Rel S M) : Out (fX4_where p1 p2 S) (fX5_where p1 p2 M) := by
  obtain ⟨n, c, k, w, l, d, f, wm, hr, b, ch, sd, P, Q, hx, rfl, h, hX⟩ := hR
  have hR := rel_s (Q := Q) hx h hX
  have hc := h.hc
  unfold fX4_where fX5_where fX4_where_j15 fX5_where_j15
  rcases mote_cases (n := n) (k := k) (w := w) (l := l) (d := d) (f := f) (wm := wm) (hr := hr) (b := b) (ch := ch) (sd := sd) (P := P) (Q := Q) p1 hx hc with ⟨a, a'⟩ | ⟨m, hm, rfl, a, a'⟩
  · rw [a, a']
    simp only [bs, ↓reduceIte]
    exact out2 hR
  rw [a, a']
  simp only [bs, one0, ↓reduceIte]
  rcases time_cases p2 with ⟨a, a'⟩ | ⟨t, ht, rfl, a, a'⟩
  · rw [a, a']
    simp only [bs, ↓reduceIte]
    exact out2 hR
  obtain ⟨Q', eq, hW⟩ := m_goesOn (sd := sd) (P := P) (Q := Q) h (show t ≤ 1000 by omega)
  rw [a, a', eq]
  simp only [bs, one0, ↓reduceIte, u_gd (show m < 10 by omega) (show 10 < 2 ^ 31 by decide), u_ix (show m < 2 ^ 31 by omega), f_n, f_motes, f_kind, f_own, f_cell, f_doors, f_ways, f_seed]
  rw [show h_cellOf (x_now S) = fun i => nI (l i) by rw [hx]; rfl]
  rw [x_walked hx h hX.1.1 hm (h.m hm).2.2 ht, m_end h hW, cl_in hm]
  simp only [bs]
  exact rel_e hx h hX h.hour.zh rfl
theorem c_arrives (hR : Rel S M) : Out (fX4_arrives p1 p2 S) (fX5_arrives p1 p2 M) := by
  obtain ⟨n, c, k, w, l, d, f, wm, hr, b, ch, sd, P, Q, hx, rfl, h, hX⟩ := hR
  have hR := rel_s (Q := Q) hx h hX
  have hc := h.hc
  unfold fX4_arrives fX5_arrives fX4_arrives_j19 fX5_arrives_j16
  rcases mote_cases (n := n) (k := k) (w := w) (l := l) (d := d) (f := f) (wm := wm) (hr := hr) (b := b) (ch := ch) (sd := sd) (P := P) (Q := Q) p1 hx hc with ⟨a, a'⟩ | ⟨m, hm, rfl, a, a'⟩
  · rw [a, a']
    simp only [bs, ↓reduceIte]
    exact out2 hR
  rw [a, a']
  simp only [bs, one0, ↓reduceIte]
  rw [show fX1_isCell p2 (x_now S) = fX1_isCell p2 (eH n c k w l d f wm hr b ch sd) by rw [hx]]
  rcases cell_cases (c := c) (k := k) (w := w) (l := l) (d := d) (f := f) (wm := wm) (hr := hr) (b := b) (ch := ch) (sd := sd) (P := P) (Q := Q) p2 h.hp.1.1 h.hp.1.2 with ⟨a, a'⟩ | ⟨x, hC, rfl, a, a'⟩
  · rw [a, a']
    simp only [bs, ↓reduceIte]
    exact out2 hR
  rw [a, a']
  simp only [bs, one0, ↓reduceIte]
  obtain ⟨Q', eq, hW⟩ := m_begins (n := n) (c := c) (k := k) (w := w) (l := l) (d := d) (f := f) (wm := wm) (hr := hr) (b := b) (ch := ch) (sd := sd) (P := P) (Q := Q)
  rw [x_look hx h hX.1.1, eq]
  simp only [bs]
  have q : ∀ (r t fu : Nat), t + r = 25 → r < fu → Out (fX4_arrives_L39 (nI m) (nI x) fu (nI t) (xs_trial S (eH n c k w (cl n c k l d f wm b hr t) d f wm (hrs hr t) b ch sd))) (fX5_arrives_L32 (nI m) (nI x) fu (cI (-1)) (nI t) (eM n c k w (cl n c k l d f wm b hr (t - 1)) d f wm (hrs hr (t - 1)) b ch sd P Q')) := by
    intro r
    induction r with
    | zero =>
      intro t fu e hf
      obtain rfl : t = 25 := by omega
      cases fu with
      | zero => omega
      | succ fu =>
        unfold fX4_arrives_L39 fX5_arrives_L32 fX5_arrives_j72
        simp only [if_pos y24]
        rw [m_end h hW]
        exact rel_e hx h hX h.after.zh rfl
    | succ r ih =>
      intro t fu e hf
      have ih' := ih (t + 1) 
      cases fu with
      | zero => omega
      | succ fu =>
        have ih' := ih (t + 1) fu (by omega) (by omega)
        rw [show t + 1 - 1 = t from rfl] at ih'
        unfold fX4_arrives_L39 fX5_arrives_L32
        simp only [if_neg (n24 (show t ≤ 24 by omega)), ↓reduceIte]
        rw [m_adv h (by omega)]
        unfold fX5_arrives_j53 fX5_arrives_j66
        simp only [xtg, e_side, e_count, e_kind, e_weight, e_cell, e_doors, e_fan, e_warm, e_hour, e_beam, e_chance, e_seed, f_n, f_motes, f_kind, f_own, f_cell, f_doors, f_ways, f_seed, wy_g0, wy_g1, wy_g2, wy_g3, wy_g4, ix0, ix1, ix2, ix3, ix4, g05, g15, g25, g35, g45, u_gd (show m < 10 by omega) (show 10 < 2 ^ 31 by decide), u_ix (show m < 2 ^ 31 by omega)]
        have fin : Out (some (nI t, xs_trial S (eH n c k w (cl n c k l d f wm b hr t) d f wm (hrs hr t) b ch sd))) (fX5_arrives_L32 (nI m) (nI x) fu (nI t) (nI (t + 1)) (eM n c k w (cl n c k l d f wm b hr t) d f wm (hrs hr t) b ch sd P Q')) := by
          cases fu with
          | zero => omega
          | succ fu =>
            unfold fX5_arrives_L32 fX5_arrives_j72
            simp only [if_neg (m1n (show t < 2 ^ 31 by omega)), ite_self]
            rw [m_end h hW]
            exact rel_e hx h hX h.after.zh rfl
        rw [nI_1]
        by_cases hl : nI (cl n c k l d f wm b hr t m) = nI x
        · simp only [if_pos hl]
          exact fin
        · simp only [if_neg hl]
          rw [x_goOn1 h]
          simp only [bs]
          rw [xtt]
          exact ih'
  have := q 25 0 FU (by omega) (by show 25 < 1100; omega)
  rw [show (0 : Nat) - 1 = 0 from rfl, cl_0, hrs_0 h.hp.2.2.2.2.1] at this
  exact this
theorem c_lights (hR : Rel S M) : Out (fX4_lights p1 S) (fX5_lights p1 M) := by
  obtain ⟨n, c, k, w, l, d, f, wm, hr, b, ch, sd, P, Q, hx, rfl, h, hX⟩ := hR
  have hR := rel_s (Q := Q) hx h hX
  have hc := h.hc
  unfold fX4_lights fX5_lights 
  rcases mote_cases (n := n) (k := k) (w := w) (l := l) (d := d) (f := f) (wm := wm) (hr := hr) (b := b) (ch := ch) (sd := sd) (P := P) (Q := Q) p1 hx hc with ⟨a, a'⟩ | ⟨m, hm, rfl, a, a'⟩
  · rw [a, a']
    simp only [bs, ↓reduceIte]
    exact out2 hR
  rw [a, a']
  simp only [bs, one0, ↓reduceIte]
  obtain ⟨Q', eq, hW⟩ := m_begins (n := n) (c := c) (k := k) (w := w) (l := l) (d := d) (f := f) (wm := wm) (hr := hr) (b := b) (ch := ch) (sd := sd) (P := P) (Q := Q)
  rw [x_look hx h hX.1.1, eq]
  simp only [bs]
  have q : ∀ (r t fu : Nat), t + r = 25 → r < fu → Out (fX4_lights_L28 (nI m) fu (nI t) (xs_trial S (eH n c k w (cl n c k l d f wm b hr t) d f wm (hrs hr t) b ch sd))) (fX5_lights_L23 (nI m) fu (cI (-1)) (nI t) (eM n c k w (cl n c k l d f wm b hr (t - 1)) d f wm (hrs hr (t - 1)) b ch sd P Q')) := by
    intro r
    induction r with
    | zero =>
      intro t fu e hf
      obtain rfl : t = 25 := by omega
      cases fu with
      | zero => omega
      | succ fu =>
        unfold fX4_lights_L28 fX5_lights_L23 fX5_lights_j69
        simp only [if_pos y24]
        rw [m_end h hW]
        exact rel_e hx h hX h.after.zh rfl
    | succ r ih =>
      intro t fu e hf
      have ih' := ih (t + 1) 
      cases fu with
      | zero => omega
      | succ fu =>
        have ih' := ih (t + 1) fu (by omega) (by omega)
        rw [show t + 1 - 1 = t from rfl] at ih'
        unfold fX4_lights_L28 fX5_lights_L23
        simp only [if_neg (n24 (show t ≤ 24 by omega)), ↓reduceIte]
        rw [m_adv h (by omega)]
        unfold fX5_lights_j42 fX5_lights_j63
        simp only [xtg, e_side, e_count, e_kind, e_weight, e_cell, e_doors, e_fan, e_warm, e_hour, e_beam, e_chance, e_seed, f_n, f_motes, f_kind, f_own, f_cell, f_doors, f_ways, f_seed, wy_g0, wy_g1, wy_g2, wy_g3, wy_g4, ix0, ix1, ix2, ix3, ix4, g05, g15, g25, g35, g45, u_gd (show m < 10 by omega) (show 10 < 2 ^ 31 by decide), u_ix (show m < 2 ^ 31 by omega)]
        have fin : Out (some (nI t, xs_trial S (eH n c k w (cl n c k l d f wm b hr t) d f wm (hrs hr t) b ch sd))) (fX5_lights_L23 (nI m) fu (nI t) (nI (t + 1)) (eM n c k w (cl n c k l d f wm b hr t) d f wm (hrs hr t) b ch sd P Q')) := by
          cases fu with
          | zero => omega
          | succ fu =>
            unfold fX5_lights_L23 fX5_lights_j69
            simp only [if_neg (m1n (show t < 2 ^ 31 by omega)), ite_self]
            rw [m_end h hW]
            exact rel_e hx h hX h.after.zh rfl
        have hCt : isC n (cl n c k l d f wm b hr t m) := (h.after.m hm).2.2
        rw [nI_1, xlit h.after.hp hCt, mlit h.after.hp hCt]
        simp only [bs]
        by_cases hl : lit n b (hrs hr t) (cl n c k l d f wm b hr t m)
        · simp only [if_pos hl, one0, ↓reduceIte]
          exact fin
        · simp only [if_neg hl, ↓reduceIte]
          rw [x_goOn1 h]
          simp only [bs]
          rw [xtt]
          exact ih'
  have := q 25 0 FU (by omega) (by show 25 < 1100; omega)
  rw [show (0 : Nat) - 1 = 0 from rfl, cl_0, hrs_0 h.hp.2.2.2.2.1] at this
  exact this
theorem c_meet (hR : Rel S M) : Out (fX4_meet p1 p2 S) (fX5_meet p1 p2 M) := by
  obtain ⟨n, c, k, w, l, d, f, wm, hr, b, ch, sd, P, Q, hx, rfl, h, hX⟩ := hR
  have hR := rel_s (Q := Q) hx h hX
  have hc := h.hc
  unfold fX4_meet fX5_meet 
  unfold fX4_areTwoMotes fX5_areTwo
  rcases mote_cases (n := n) (k := k) (w := w) (l := l) (d := d) (f := f) (wm := wm) (hr := hr) (b := b) (ch := ch) (sd := sd) (P := P) (Q := Q) p1 hx hc with ⟨a, a'⟩ | ⟨m, hm, rfl, a, a'⟩
  · rw [a, a']
    simp only [bs, ↓reduceIte]
    exact out2 hR
  rcases mote_cases (n := n) (k := k) (w := w) (l := l) (d := d) (f := f) (wm := wm) (hr := hr) (b := b) (ch := ch) (sd := sd) (P := P) (Q := Q) p2 hx hc with ⟨a2, a2'⟩ | ⟨m2, hm2, rfl, a2, a2'⟩
  · rw [a, a', a2, a2']
    simp only [bs, one0, ↓reduceIte]
    exact out2 hR
  rw [a, a', a2, a2']
  simp only [bs, one0, ↓reduceIte]
  by_cases hmm : nI m = nI m2
  · simp only [if_pos hmm, bs, ↓reduceIte]
    exact out2 hR
  simp only [if_neg hmm, bs, one0, ↓reduceIte]
  obtain ⟨Q', eq, hW⟩ := m_begins (n := n) (c := c) (k := k) (w := w) (l := l) (d := d) (f := f) (wm := wm) (hr := hr) (b := b) (ch := ch) (sd := sd) (P := P) (Q := Q)
  rw [x_look hx h hX.1.1, eq]
  simp only [bs]
  have q : ∀ (r t fu : Nat), t + r = 25 → r < fu → Out (fX4_meet_L29 (nI m) (nI m2) fu (nI t) (xs_trial S (eH n c k w (cl n c k l d f wm b hr t) d f wm (hrs hr t) b ch sd))) (fX5_meet_L25 (nI m) (nI m2) fu (cI (-1)) (nI t) (eM n c k w (cl n c k l d f wm b hr (t - 1)) d f wm (hrs hr (t - 1)) b ch sd P Q')) := by
    intro r
    induction r with
    | zero =>
      intro t fu e hf
      obtain rfl : t = 25 := by omega
      cases fu with
      | zero => omega
      | succ fu =>
        unfold fX4_meet_L29 fX5_meet_L25 fX5_meet_j70
        simp only [if_pos y24]
        rw [m_end h hW]
        exact rel_e hx h hX h.after.zh rfl
    | succ r ih =>
      intro t fu e hf
      have ih' := ih (t + 1) 
      cases fu with
      | zero => omega
      | succ fu =>
        have ih' := ih (t + 1) fu (by omega) (by omega)
        rw [show t + 1 - 1 = t from rfl] at ih'
        unfold fX4_meet_L29 fX5_meet_L25
        simp only [if_neg (n24 (show t ≤ 24 by omega)), ↓reduceIte]
        rw [m_adv h (by omega)]
        unfold fX5_meet_j46 fX5_meet_j64
        simp only [xtg, e_side, e_count, e_kind, e_weight, e_cell, e_doors, e_fan, e_warm, e_hour, e_beam, e_chance, e_seed, f_n, f_motes, f_kind, f_own, f_cell, f_doors, f_ways, f_seed, wy_g0, wy_g1, wy_g2, wy_g3, wy_g4, ix0, ix1, ix2, ix3, ix4, g05, g15, g25, g35, g45, u_gd (show m < 10 by omega) (show 10 < 2 ^ 31 by decide), u_ix (show m < 2 ^ 31 by omega), u_gd (show m2 < 10 by omega) (show 10 < 2 ^ 31 by decide), u_ix (show m2 < 2 ^ 31 by omega)]
        have fin : Out (some (nI t, xs_trial S (eH n c k w (cl n c k l d f wm b hr t) d f wm (hrs hr t) b ch sd))) (fX5_meet_L25 (nI m) (nI m2) fu (nI t) (nI (t + 1)) (eM n c k w (cl n c k l d f wm b hr t) d f wm (hrs hr t) b ch sd P Q')) := by
          cases fu with
          | zero => omega
          | succ fu =>
            unfold fX5_meet_L25 fX5_meet_j70
            simp only [if_neg (m1n (show t < 2 ^ 31 by omega)), ite_self]
            rw [m_end h hW]
            exact rel_e hx h hX h.after.zh rfl
        rw [nI_1]
        by_cases hl : nI (cl n c k l d f wm b hr t m) = nI (cl n c k l d f wm b hr t m2)
        · simp only [if_pos hl]
          exact fin
        · simp only [if_neg hl]
          rw [x_goOn1 h]
          simp only [bs]
          rw [xtt]
          exact ih'
  have := q 25 0 FU (by omega) (by show 25 < 1100; omega)
  rw [show (0 : Nat) - 1 = 0 from rfl, cl_0, hrs_0 h.hp.2.2.2.2.1] at this
  exact this
theorem c_together (hR : Rel S M) : Out (fX4_together p1 p2 S) (fX5_together p1 p2 M) := by
  obtain ⟨n, c, k, w, l, d, f, wm, hr, b, ch, sd, P, Q, hx, rfl, h, hX⟩ := hR
  have hR := rel_s (Q := Q) hx h hX
  have hc := h.hc
  unfold fX4_together fX5_together
  unfold fX4_areTwoMotes fX5_areTwo
  rcases mote_cases (n := n) (k := k) (w := w) (l := l) (d := d) (f := f) (wm := wm) (hr := hr) (b := b) (ch := ch) (sd := sd) (P := P) (Q := Q) p1 hx hc with ⟨a, a'⟩ | ⟨m, hm, rfl, a, a'⟩
  · rw [a, a']
    simp only [bs, ↓reduceIte]
    exact out2 hR
  rcases mote_cases (n := n) (k := k) (w := w) (l := l) (d := d) (f := f) (wm := wm) (hr := hr) (b := b) (ch := ch) (sd := sd) (P := P) (Q := Q) p2 hx hc with ⟨a2, a2'⟩ | ⟨m2, hm2, rfl, a2, a2'⟩
  · rw [a, a', a2, a2']
    simp only [bs, one0, ↓reduceIte]
    exact out2 hR
  rw [a, a', a2, a2']
  simp only [bs, one0, ↓reduceIte]
  by_cases hmm : nI m = nI m2
  · simp only [if_pos hmm, bs, ↓reduceIte]
    exact out2 hR
  simp only [if_neg hmm, bs, one0, ↓reduceIte]
  obtain ⟨Q', eq, hW⟩ := m_begins (n := n) (c := c) (k := k) (w := w) (l := l) (d := d) (f := f) (wm := wm) (hr := hr) (b := b) (ch := ch) (sd := sd) (P := P) (Q := Q)
  rw [x_look hx h hX.1.1, eq]
  simp only [bs]
  have q : ∀ (r t fu : Nat) (a : Int32), t + r = 25 → r < fu → Out (fX4_together_L32 (nI m) (nI m2) fu a (nI t) (xs_trial S (eH n c k w (cl n c k l d f wm b hr t) d f wm (hrs hr t) b ch sd))) (fX5_together_L25 (nI m) (nI m2) fu a (nI t) (eM n c k w (cl n c k l d f wm b hr (t - 1)) d f wm (hrs hr (t - 1)) b ch sd P Q')) := by
    intro r
    induction r with
    | zero =>
      intro t fu a e hf
      obtain rfl : t = 25 := by omega
      cases fu with
      | zero => omega
      | succ fu =>
        unfold fX4_together_L32 fX5_together_L25
        simp only [if_pos y24]
        rw [m_end h hW]
        exact rel_e hx h hX h.after.zh rfl
    | succ r ih =>
      intro t fu a e hf
      cases fu with
      | zero => omega
      | succ fu =>
        have ih' := fun a => ih (t + 1) fu a (by omega) (by omega)
        rw [show t + 1 - 1 = t from rfl] at ih'
        unfold fX4_together_L32 fX5_together_L25
        simp only [if_neg (n24 (show t ≤ 24 by omega))]
        rw [m_adv h (by omega)]
        unfold fX5_together_j41 fX5_together_j82 fX4_together_j82 fX4_together_j83
        simp only [xtg, e_side, e_count, e_kind, e_weight, e_cell, e_doors, e_fan, e_warm, e_hour, e_beam, e_chance, e_seed, f_n, f_motes, f_kind, f_own, f_cell, f_doors, f_ways, f_seed, wy_g0, wy_g1, wy_g2, wy_g3, wy_g4, ix0, ix1, ix2, ix3, ix4, g05, g15, g25, g35, g45, u_gd (show m < 10 by omega) (show 10 < 2 ^ 31 by decide), u_ix (show m < 2 ^ 31 by omega), u_gd (show m2 < 10 by omega) (show 10 < 2 ^ 31 by decide), u_ix (show m2 < 2 ^ 31 by omega)]
        have hC1 : isC n (cl n c k l d f wm b hr t m) := (h.after.m hm).2.2
        have hC2 : isC n (cl n c k l d f wm b hr t m2) := (h.after.m hm2).2.2
        rw [nI_1, xlit h.after.hp hC1, mlit h.after.hp hC1, xlit h.after.hp hC2, mlit h.after.hp hC2, x_goOn1 h]
        simp only [bs]
        rw [xtt]
        unfold fX4_bit
        by_cases hl : lit n b (hrs hr t) (cl n c k l d f wm b hr t m)
        · simp only [if_pos hl, one0, ↓reduceIte]
          by_cases hl2 : lit n b (hrs hr t) (cl n c k l d f wm b hr t m2)
          · simp only [if_pos hl2, one0, ↓reduceIte, bs]
            exact ih' _
          · simp only [if_neg hl2, ↓reduceIte, bs]
            rw [Int32.add_zero]
            exact ih' _
        · simp only [if_neg hl, ↓reduceIte, bs]
          rw [Int32.add_zero]
          exact ih' _
  have := q 25 0 FU 0 (by omega) (by show 25 < 1100; omega)
  rw [show (0 : Nat) - 1 = 0 from rfl, cl_0, hrs_0 h.hp.2.2.2.2.1] at this
  exact this
theorem c_runs (hR : Rel S M) : Out (fX4_runs p1 S) (fX5_runs p1 M) := by
  obtain ⟨n, c, k, w, l, d, f, wm, hr, b, ch, sd, P, Q, hx, rfl, h, hX⟩ := hR
  have hR := rel_s (Q := Q) hx h hX
  unfold fX4_runs fX5_runs
  rcases time_cases p1 with ⟨a, a'⟩ | ⟨T, hT, rfl, a, a'⟩
  · rw [a, a']
    simp only [bs, ↓reduceIte]
    exact out2 hR
  rw [a, a', x_look hx h hX.1.1]
  simp only [bs, one0, ↓reduceIte]
  have q : ∀ (r t fu : Nat) (a : Int32) (Q : QT), t + r = T + 1 → r < fu → Out (fX4_runs_L29 (nI T) fu a (nI t) (xs_trial S (eH n c k w (cl n c k l d f wm b hr t) d f wm (hrs hr t) b ch sd))) (fX5_runs_L18 (nI T) fu a (nI t) (eM n c k w l d f wm hr b ch sd P Q)) := by
    intro r
    induction r with
    | zero =>
      intro t fu a Q e hf
      obtain rfl : t = T + 1 := by omega
      cases fu with
      | zero => omega
      | succ fu =>
        unfold fX4_runs_L29 fX5_runs_L18
        simp only [if_pos (nI_lt (Nat.lt_succ_self T) (show T + 1 < 2 ^ 31 by omega))]
        exact rel_e hx h hX h.after.zh rfl
    | succ r ih =>
      intro t fu a Q e hf
      cases fu with
      | zero => omega
      | succ fu =>
        obtain ⟨Q', eq⟩ := m_cb (sd := sd) (P := P) (Q := Q) h (show t ≤ 1000 by omega)
        unfold fX4_runs_L29 fX5_runs_L18 fX5_runs_j34 fX4_bit
        simp only [if_neg (nI_nlt (show t ≤ T by omega) (show T < 2 ^ 31 by omega)), xtg]
        rw [x_car h.after, x_goOn1 h, eq]
        simp only [bs]
        rw [xtt, nI_1]
        by_cases hl : sm w c < 2 * vb n c k w l d f wm hr b t
        · simp only [if_pos hl, one0, ↓reduceIte, bs]
          exact ih (t + 1) fu _ Q' (by omega) (by omega)
        · simp only [if_neg hl, ↓reduceIte, bs]
          rw [Int32.add_zero]
          exact ih (t + 1) fu _ Q' (by omega) (by omega)
  have := q (T + 1) 0 FU 0 Q (by omega) (by show T + 1 < 1100; omega)
  rw [cl_0, hrs_0 h.hp.2.2.2.2.1] at this
  exact this
end C3
