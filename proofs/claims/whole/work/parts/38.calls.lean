/-! ===== pure layer: when, round, centre, steps, hours, status ===== -/
def sb (l1 l2 : Nat → Nat) : Nat → Bool
  | 0 => true
  | j + 1 => sb l1 l2 j && decide (nI (l1 j) = nI (l2 j))
theorem sb_no {l1 l2 : Nat → Nat} {j : Nat} (h : sb l1 l2 j = false) : ∀ r, sb l1 l2 (j + r) = false
  | 0 => h
  | r + 1 => by
    show (sb l1 l2 (j + r) && _) = false
    rw [sb_no h r]
    rfl
def ff (p : Nat → Bool) : Nat → Nat → Int32
  | 0, _ => cI (-1)
  | r + 1, i => if p i = true then nI i else ff p r (i + 1)
def bb (V : Nat → Nat) : Nat → Nat → Int32 → Int32 → Int32 × Int32
  | 0, _, m, y => (m, y)
  | r + 1, i, m, y => if nI (V i) ≤ m then bb V r (i + 1) m y else bb V r (i + 1) (nI (V i)) (nI i)
theorem bb_in {V : Nat → Nat} {N : Nat} : ∀ (r i t : Nat), i + r ≤ N → t < i → ∃ t', t' < N ∧ bb V r i (nI (V t)) (nI t) = (nI (V t'), nI t')
  | 0, i, t, h, ht => ⟨t, by omega, rfl⟩
  | r + 1, i, t, h, ht => by
    rw [bb]
    by_cases q : nI (V i) ≤ nI (V t)
    · rw [if_pos q]
      exact bb_in r (i + 1) t (by omega) (by omega)
    · rw [if_neg q]
      exact bb_in r (i + 1) i (by omega) (by omega)
theorem bb_0 {V : Nat → Nat} {r : Nat} (hV : V 0 < 2 ^ 31) : ∃ t, t < r + 1 ∧ bb V (r + 1) 0 (cI (-1)) (0 : Int32) = (nI (V t), nI t) := by
  rw [bb, if_neg (show ¬ nI (V 0) ≤ cI (-1) from fun q => by
    have := Int32.le_iff_toInt_le.mp q
    rw [nI_toInt hV, show (cI (-1)).toInt = -1 by decide] at this
    omega)]
  exact bb_in r 1 0 (by omega) (by omega)
section C4
variable {n c : Nat} {k w l : Nat → Nat} {d f wm hr b ch : Nat} {sd : Int32} {P : PT} {Q : QT} {S : XT} {M : MT} {p1 p2 p3 p4 p5 : Int32}
theorem x_sa {l1 l2 : Nat → Nat} {d' f' wm' hr' b' ch' : Nat} {sd' : Int32} {c' n' : Nat} {k' w' : Nat → Nat} (hc : c ≤ 10) : fX1_standsAs (eH n c k w l1 d f wm hr b ch sd) (eH n' c' k' w' l2 d' f' wm' hr' b' ch' sd') = some (if sb l1 l2 c = true then (1 : Int32) else 0) := by
  have q : ∀ (r j fu : Nat), j + r = c → r < fu → sb l1 l2 j = true → fX1_standsAs_L2 (eH n c k w l1 d f wm hr b ch sd) (eH n' c' k' w' l2 d' f' wm' hr' b' ch' sd') fu (nI j) = some (if sb l1 l2 c = true then (1 : Int32) else 0) := by
    intro r
    induction r with
    | zero =>
      intro j fu e hf hs
      obtain rfl : j = c := by omega
      cases fu with
      | zero => omega
      | succ fu =>
        unfold fX1_standsAs_L2
        simp only [e_side, e_count, e_kind, e_weight, e_cell, e_doors, e_fan, e_warm, e_hour, e_beam, e_chance, e_seed]
        rw [if_pos (nI_le (Nat.le_refl _) (by omega)), if_pos hs]
    | succ r ih =>
      intro j fu e hf hs
      cases fu with
      | zero => omega
      | succ fu =>
        unfold fX1_standsAs_L2
        simp only [e_side, e_count, e_kind, e_weight, e_cell, e_doors, e_fan, e_warm, e_hour, e_beam, e_chance, e_seed, u_gd (show j < 10 by omega) (show 10 < 2 ^ 31 by decide), u_ix (show j < 2 ^ 31 by omega)]
        rw [if_neg (nI_ge (show j < c by omega) (by omega)), nI_1]
        by_cases q : nI (l1 j) = nI (l2 j)
        · rw [if_pos q]
          exact ih (j + 1) fu (by omega) (by omega) (by rw [sb, hs, decide_eq_true q]; rfl)
        · rw [if_neg q]
          have z : sb l1 l2 (j + 1) = false := by rw [sb, hs, decide_eq_false q]; rfl
          have := sb_no z r
          rw [show j + 1 + r = c by omega] at this
          rw [this]
          rfl
  exact q c 0 FU (by omega) (by show c < 1100; omega) rfl
theorem m_ro {k8 : Int32 → Int32 → MT → Option (Int32 × MT)} {v1 v2 : Int32} {l0 : Nat → Nat} {hr0 : Nat} (hc : c ≤ 10) (hW : Wa Q l0 hr0) : fX5_round_L28 k8 FU v1 v2 (1 : Int32) (0 : Int32) (eM n c k w l d f wm hr b ch sd P Q) = fX5_round_j62 k8 v1 v2 (if sb l l0 c = true then (1 : Int32) else 0) (eM n c k w l d f wm hr b ch sd P Q) := by
  have q : ∀ (r j fu : Nat), j + r = c → r < fu → fX5_round_L28 k8 fu v1 v2 (if sb l l0 j = true then (1 : Int32) else 0) (nI j) (eM n c k w l d f wm hr b ch sd P Q) = fX5_round_j62 k8 v1 v2 (if sb l l0 c = true then (1 : Int32) else 0) (eM n c k w l d f wm hr b ch sd P Q) := by
    intro r
    induction r with
    | zero =>
      intro j fu e hf
      obtain rfl : j = c := by omega
      cases fu with
      | zero => omega
      | succ fu =>
        unfold fX5_round_L28
        simp only [f_n, f_motes, f_kind, f_own, f_cell, f_doors, f_ways, f_seed]
        rw [if_pos (nI_le (Nat.le_refl _) (by omega))]
    | succ r ih =>
      intro j fu e hf
      cases fu with
      | zero => omega
      | succ fu =>
        have ih' := ih (j + 1) fu (by omega) (by omega)
        unfold fX5_round_L28 fX5_round_j56
        simp only [f_n, f_motes, f_kind, f_own, f_cell, f_doors, f_ways, f_seed, f_was, u_gd (show j < 10 by omega) (show 10 < 2 ^ 31 by decide), u_ix (show j < 2 ^ 31 by omega)]
        rw [if_neg (nI_ge (show j < c by omega) (by omega)), nI_1, hW.1 j (by omega)]
        by_cases q : nI (l j) = nI (l0 j)
        · rw [if_pos q]
          rw [sb, decide_eq_true q, Bool.and_true] at ih'
          exact ih'
        · rw [if_neg q]
          rw [sb, decide_eq_false q, Bool.and_false] at ih'
          exact ih'
  exact q c 0 FU (by omega) (by show c < 1100; omega)
theorem c_round (hR : Rel S M) : Out (fX4_round S) (fX5_round M) := by
  obtain ⟨n, c, k, w, l, d, f, wm, hr, b, ch, sd, P, Q, hx, rfl, h, hX⟩ := hR
  have hR := rel_s (Q := Q) hx h hX
  have hc := h.hc
  unfold fX4_round fX5_round
  obtain ⟨Q', eq, hW⟩ := m_begins (n := n) (c := c) (k := k) (w := w) (l := l) (d := d) (f := f) (wm := wm) (hr := hr) (b := b) (ch := ch) (sd := sd) (P := P) (Q := Q)
  rw [x_look hx h hX.1.1, eq]
  simp only [bs]
  have q : ∀ (r t fu : Nat), t + 1 + r = 25 → r < fu → Out (fX4_round_L13 fu (nI (t + 1)) (xs_trial S (eH n c k w (cl n c k l d f wm b hr t) d f wm (hrs hr t) b ch sd))) (fX5_round_L8 fu (cI (-1)) (nI (t + 1)) (eM n c k w (cl n c k l d f wm b hr t) d f wm (hrs hr t) b ch sd P Q')) := by
    intro r
    induction r with
    | zero =>
      intro t fu e hf
      obtain rfl : t = 24 := by omega
      cases fu with
      | zero => omega
      | succ fu =>
        unfold fX4_round_L13 fX5_round_L8 fX5_round_j74
        simp only [if_pos y24]
        rw [m_end h hW]
        exact rel_e hx h hX h.after.zh rfl
    | succ r ih =>
      intro t fu e hf
      cases fu with
      | zero => omega
      | succ fu =>
        have ih' := ih (t + 1) fu (by omega) (by omega)
        unfold fX4_round_L13 fX5_round_L8
        simp only [if_neg (n24 (show t + 1 ≤ 24 by omega)), ↓reduceIte, xtg, xtn]
        rw [x_goOn1 h, m_step h]
        simp only [bs]
        rw [hx, x_sa hc, m_ro hc hW, xtt, nI_1]
        unfold fX5_round_j62 fX5_round_j68
        simp only [bs]
        by_cases hl : sb (cl n c k l d f wm b hr (t + 1)) l c = true
        · simp only [if_pos hl, one0, ↓reduceIte]
          cases fu with
          | zero => omega
          | succ fu =>
            unfold fX5_round_L8 fX5_round_j74
            simp only [if_neg (m1n (show t + 1 < 2 ^ 31 by omega)), ite_self]
            rw [m_end h hW]
            exact rel_e hx h hX h.after.zh rfl
        · simp only [if_neg hl, ↓reduceIte]
          rw [nI_1]
          exact ih'
  have := q 24 0 FU (by omega) (by show 24 < 1100; omega)
  rw [cl_0, hrs_0 h.hp.2.2.2.2.1] at this
  exact this
abbrev cb (n c : Nat) (k w l : Nat → Nat) (d f wm hr b t : Nat) : Bool := decide (sm w c < 2 * vb n c k w l d f wm hr b t)
theorem x_fc (hx : x_now S = (eH n c k w l d f wm hr b ch sd)) (h : HI n c k w l d f wm hr b ch) (hZ : Zh (x_trial S)) : ∃ T, Zh T ∧ fX4_firstCarried S = some (ff (cb n c k w l d f wm hr b) 25 0, xs_trial S T) := by
  have q : ∀ (r t fu : Nat), t + r = 25 → r < fu → ∃ T, Zh T ∧ fX4_firstCarried_L13 fu (nI t) (xs_trial S (eH n c k w (cl n c k l d f wm b hr t) d f wm (hrs hr t) b ch sd)) = some (ff (cb n c k w l d f wm hr b) r t, xs_trial S T) := by
    intro r
    induction r with
    | zero =>
      intro t fu e hf
      obtain rfl : t = 25 := by omega
      cases fu with
      | zero => omega
      | succ fu =>
        refine ⟨_, (h.after (t := 25)).zh (sd := sd), ?_⟩
        unfold fX4_firstCarried_L13
        rw [if_pos y24]
        rfl
    | succ r ih =>
      intro t fu e hf
      cases fu with
      | zero => omega
      | succ fu =>
        unfold fX4_firstCarried_L13
        simp only [if_neg (n24 (show t ≤ 24 by omega)), xtg]
        rw [x_car h.after, ff]
        simp only [bs]
        by_cases hl : sm w c < 2 * vb n c k w l d f wm hr b t
        · simp only [if_pos hl, one0, ↓reduceIte, cb, decide_eq_true hl]
          exact ⟨_, (h.after (t := t)).zh, rfl⟩
        · simp only [if_neg hl, ↓reduceIte, cb, decide_eq_false hl]
          rw [x_goOn1 h]
          simp only [bs]
          rw [xtt, nI_1]
          exact ih (t + 1) fu (by omega) (by omega)
  unfold fX4_firstCarried
  rw [x_look hx h hZ]
  simp only [bs]
  have := q 25 0 FU (by omega) (by show 25 < 1100; omega)
  rw [cl_0, hrs_0 h.hp.2.2.2.2.1] at this
  exact this
theorem x_bt (hx : x_now S = (eH n c k w l d f wm hr b ch sd)) (h : HI n c k w l d f wm hr b ch) (hZ : Zh (x_trial S)) : ∃ T, Zh T ∧ fX4_bestTime S = some ((bb (vb n c k w l d f wm hr b) 25 0 (cI (-1)) (0 : Int32)).2, xs_trial S T) := by
  have q : ∀ (r t fu : Nat) (a y : Int32), t + r = 25 → r < fu → ∃ T, Zh T ∧ fX4_bestTime_L17 fu a y (nI t) (xs_trial S (eH n c k w (cl n c k l d f wm b hr t) d f wm (hrs hr t) b ch sd)) = some ((bb (vb n c k w l d f wm hr b) r t a y).2, xs_trial S T) := by
    intro r
    induction r with
    | zero =>
      intro t fu a y e hf
      obtain rfl : t = 25 := by omega
      cases fu with
      | zero => omega
      | succ fu =>
        refine ⟨_, (h.after (t := 25)).zh (sd := sd), ?_⟩
        unfold fX4_bestTime_L17
        rw [if_pos y24]
        rfl
    | succ r ih =>
      intro t fu a y e hf
      cases fu with
      | zero => omega
      | succ fu =>
        unfold fX4_bestTime_L17 fX4_bestTime_j43
        simp only [if_neg (n24 (show t ≤ 24 by omega)), xtg]
        rw [x_lw h.after, bb, x_goOn1 h]
        simp only [bs]
        rw [xtt, nI_1]
        by_cases hl : nI (vb n c k w l d f wm hr b t) ≤ a
        · simp only [if_pos hl]
          exact ih (t + 1) fu _ _ (by omega) (by omega)
        · simp only [if_neg hl]
          exact ih (t + 1) fu _ _ (by omega) (by omega)
  unfold fX4_bestTime
  rw [x_look hx h hZ]
  simp only [bs]
  have := q 25 0 FU (cI (-1)) 0 (by omega) (by show 25 < 1100; omega)
  rw [cl_0, hrs_0 h.hp.2.2.2.2.1] at this
  exact this
theorem m_wh (h : HI n c k w l d f wm hr b ch) : ∀ (r t fu : Nat) (v2 v3 v4 : Int32) (Q : QT), t + r = 25 → r < fu → ∃ Q', fX5_when_L26 p1 fu v2 v3 v4 (nI t) (eM n c k w l d f wm hr b ch sd P Q) = fX5_when_j83 p1 (if v2 = cI (-1) then ff (cb n c k w l d f wm hr b) r t else v2) (bb (vb n c k w l d f wm hr b) r t v4 v3).2 (bb (vb n c k w l d f wm hr b) r t v4 v3).1 (eM n c k w l d f wm hr b ch sd P Q') := by
  intro r
  induction r with
  | zero =>
    intro t fu v2 v3 v4 Q e hf
    obtain rfl : t = 25 := by omega
    cases fu with
    | zero => omega
    | succ fu =>
      refine ⟨Q, ?_⟩
      unfold fX5_when_L26
      rw [if_pos y24]
      have e2 : (if v2 = cI (-1) then ff (cb n c k w l d f wm hr b) 0 25 else v2) = v2 := by
        by_cases q : v2 = cI (-1)
        · rw [if_pos q, q]
          rfl
        · rw [if_neg q]
      rw [e2]
      rfl
  | succ r ih =>
    intro t fu v2 v3 v4 Q e hf
    cases fu with
    | zero => omega
    | succ fu =>
      obtain ⟨Q1, eq⟩ := m_vb (sd := sd) (P := P) (Q := Q) h (show t ≤ 1000 by omega)
      have v90 : vb n c k w l d f wm hr b t ≤ 90 := lw_le h
      have w90 := wia_le h
      have ih' := fun v2 v3 v4 => ih (t + 1) fu v2 v3 v4 Q1 (by omega) (by omega)
      unfold fX5_when_L26 fX5_when_j60 fX5_when_j77
      simp only [if_neg (n24 (show t ≤ 24 by omega))]
      rw [eq, ff, bb]
      simp only [bs]
      rw [m_aw h.hc, nI_1]
      simp only [bs]
      rw [show (2 : Int32) * nI (vb n c k w l d f wm hr b t) = nI (2 * vb n c k w l d f wm hr b t) from pk_mul 2 _]
      have key : ∀ v : Int32, ∃ Q', (if v4 < nI (vb n c k w l d f wm hr b t) then fX5_when_L26 p1 fu v (nI t) (nI (vb n c k w l d f wm hr b t)) (nI (t + 1)) (eM n c k w l d f wm hr b ch sd P Q1) else fX5_when_L26 p1 fu v v3 v4 (nI (t + 1)) (eM n c k w l d f wm hr b ch sd P Q1)) = fX5_when_j83 p1 (if v = cI (-1) then ff (cb n c k w l d f wm hr b) r (t + 1) else v) (if nI (vb n c k w l d f wm hr b t) ≤ v4 then bb (vb n c k w l d f wm hr b) r (t + 1) v4 v3 else bb (vb n c k w l d f wm hr b) r (t + 1) (nI (vb n c k w l d f wm hr b t)) (nI t)).2 (if nI (vb n c k w l d f wm hr b t) ≤ v4 then bb (vb n c k w l d f wm hr b) r (t + 1) v4 v3 else bb (vb n c k w l d f wm hr b) r (t + 1) (nI (vb n c k w l d f wm hr b t)) (nI t)).1 (eM n c k w l d f wm hr b ch sd P Q') := by
        intro v
        by_cases hl : nI (vb n c k w l d f wm hr b t) ≤ v4
        · rw [if_neg (fun q => Int32.not_lt.mpr hl q)]
          simp only [if_pos hl]
          exact ih' v v3 v4
        · rw [if_pos (Int32.not_le.mp hl)]
          simp only [if_neg hl]
          exact ih' v _ _
      by_cases q : v2 = cI (-1)
      · simp only [if_pos q]
        by_cases hl : sm w c < 2 * vb n c k w l d f wm hr b t
        · rw [if_neg (nI_ge hl (by omega))]
          obtain ⟨Q', z⟩ := key (nI t)
          refine ⟨Q', ?_⟩
          rw [if_neg (m1n (show t < 2 ^ 31 by omega))] at z
          rw [if_pos (show cb n c k w l d f wm hr b t = true from decide_eq_true hl)]
          exact z
        · rw [if_pos (nI_le (show 2 * vb n c k w l d f wm hr b t ≤ sm w c by omega) (by omega))]
          obtain ⟨Q', z⟩ := key v2
          refine ⟨Q', ?_⟩
          rw [if_pos q] at z
          rw [if_neg (show ¬ cb n c k w l d f wm hr b t = true from fun e => hl (of_decide_eq_true e))]
          exact z
      · simp only [if_neg q]
        obtain ⟨Q', z⟩ := key v2
        refine ⟨Q', ?_⟩
        rw [if_neg q] at z
        exact z
theorem c_when (hR : Rel S M) : Out (fX4_when p1 S) (fX5_when p1 M) := by
  obtain ⟨n, c, k, w, l, d, f, wm, hr, b, ch, sd, P, Q, hx, rfl, h, hX⟩ := hR
  have hR := rel_s (Q := Q) hx h hX
  unfold fX4_when fX5_when
  rcases wi_cases (N := 2) (2 : Int32) p1 rfl (by decide) with ⟨e, h1⟩ | ⟨v, hv, rfl, h1, h2, h3, e⟩
  · have z : ¬ p1 = 0 ∧ ¬ p1 = 1 ∧ ¬ p1 = 2 := by
      refine ⟨fun q => ?_, fun q => ?_, fun q => ?_⟩ <;> subst q <;> revert h1 <;> decide
    rw [e, if_neg z.1, if_neg z.2.1, if_neg z.2.2]
    simp only [bs, ↓reduceIte]
    exact out2 hR
  rw [e]
  simp only [bs, one0, ↓reduceIte]
  obtain ⟨Q', eq⟩ := m_wh (sd := sd) (P := P) (p1 := nI v) h 25 0 FU (cI (-1)) 0 (cI (-1)) Q (by omega) (by show 25 < 1100; omega)
  rw [show fX5_when_L26 (nI v) FU (cI (-1)) (0 : Int32) (cI (-1)) (0 : Int32) (eM n c k w l d f wm hr b ch sd P Q) = _ from eq, if_pos rfl]
  unfold fX5_when_j83
  have hv5 : v = 0 ∨ v = 1 ∨ v = 2 := by omega
  rcases hv5 with rfl | rfl | rfl
  · obtain ⟨T, hT, e1⟩ := x_fc hx h hX.1.1
    simp (decide := true) only [↓reduceIte]
    rw [e1]
    exact rel_e hx h hX hT rfl
  · obtain ⟨T, hT, e1⟩ := x_bt hx h hX.1.1
    simp (decide := true) only [↓reduceIte]
    rw [e1]
    exact rel_e hx h hX hT rfl
  · obtain ⟨T, hT, e1⟩ := x_bt hx h hX.1.1
    simp (decide := true) only [↓reduceIte]
    have v90 : vb n c k w l d f wm hr b 0 ≤ 90 := lw_le h
    obtain ⟨t, ht, eb⟩ := bb_0 (V := vb n c k w l d f wm hr b) (r := 24) (by omega)
    rw [e1, eb]
    simp only [bs]
    rw [x_la (S := xs_trial S T) hx h hT (show t ≤ 24 by omega)]
    simp only [bs]
    rw [xtt, xtg, x_lw h.after]
    exact rel_e hx h hX h.after.zh rfl
/-! centre -/
theorem spr_in {kx km : Int32 → Int32 → Option Int32} {m : Nat} (hm : m < 10) : ∀ (r o fu : Nat) (a : Int32), o + r = m → r < fu → ∃ y, fX1_spread_L14 kx (eH n c k w l d f wm hr b ch sd) fu a (nI m) (nI o) = kx y (nI (m + 1)) ∧ fX5_spread_L14 km (eM n c k w l d f wm hr b ch sd P Q) fu a (nI m) (nI o) = km y (nI (m + 1)) := by
  intro r
  induction r with
  | zero =>
    intro o fu a e hf
    obtain rfl : o = m := by omega
    cases fu with
    | zero => omega
    | succ fu =>
      unfold fX1_spread_L14 fX5_spread_L14
      rw [if_pos (nI_le (Nat.le_refl _) (by omega)), if_pos (nI_le (Nat.le_refl _) (by omega)), nI_1]
      exact ⟨a, rfl, rfl⟩
  | succ r ih =>
    intro o fu a e hf
    cases fu with
    | zero => omega
    | succ fu =>
      unfold fX1_spread_L14 fX5_spread_L14 fX5_apart
      simp only [e_side, e_count, e_kind, e_weight, e_cell, e_doors, e_fan, e_warm, e_hour, e_beam, e_chance, e_seed, f_n, f_motes, f_kind, f_own, f_cell, f_doors, f_ways, f_seed, bs, if_neg (nI_ge (show o < m by omega) (show m < 2 ^ 31 by omega)), u_gd hm (show 10 < 2 ^ 31 by decide), u_gd (show o < 10 by omega) (show 10 < 2 ^ 31 by decide), u_ix (show m < 2 ^ 31 by omega), u_ix (show o < 2 ^ 31 by omega), nI_1]
      exact ih (o + 1) fu _ (by omega) (by omega)
theorem spr (hc : c ≤ 10) : ∃ y, fX1_spread (eH n c k w l d f wm hr b ch sd) = some y ∧ fX5_spread (eM n c k w l d f wm hr b ch sd P Q) = some y := by
  have q : ∀ (r m fu : Nat) (a : Int32), m + r = c → r < fu → ∃ y, fX1_spread_L4 (eH n c k w l d f wm hr b ch sd) fu a (nI m) = some y ∧ fX5_spread_L4 (eM n c k w l d f wm hr b ch sd P Q) fu a (nI m) = some y := by
    intro r
    induction r with
    | zero =>
      intro m fu a e hf
      obtain rfl : m = c := by omega
      cases fu with
      | zero => omega
      | succ fu =>
        unfold fX1_spread_L4 fX5_spread_L4
        simp only [e_side, e_count, e_kind, e_weight, e_cell, e_doors, e_fan, e_warm, e_hour, e_beam, e_chance, e_seed, f_n, f_motes, f_kind, f_own, f_cell, f_doors, f_ways, f_seed, if_pos (nI_le (Nat.le_refl m) (show m < 2 ^ 31 by omega))]
        exact ⟨a, rfl, rfl⟩
    | succ r ih =>
      intro m fu a e hf
      cases fu with
      | zero => omega
      | succ fu =>
        unfold fX1_spread_L4 fX5_spread_L4
        simp only [e_side, e_count, e_kind, e_weight, e_cell, e_doors, e_fan, e_warm, e_hour, e_beam, e_chance, e_seed, f_n, f_motes, f_kind, f_own, f_cell, f_doors, f_ways, f_seed, if_neg (nI_ge (show m < c by omega) (show c < 2 ^ 31 by omega))]
        obtain ⟨y, y1, y2⟩ := spr_in (n := n) (c := c) (k := k) (w := w) (l := l) (d := d) (f := f) (wm := wm) (hr := hr) (b := b) (ch := ch) (sd := sd) (P := P) (Q := Q) (kx := fun v1 v2 => fX1_spread_L4 (eH n c k w l d f wm hr b ch sd) fu v1 v2) (km := fun v1 v2 => fX5_spread_L4 (eM n c k w l d f wm hr b ch sd P Q) fu v1 v2) (show m < 10 by omega) m 0 FU a (by omega) (by show m < 1100; omega)
        rw [show fX1_spread_L14 _ (eH n c k w l d f wm hr b ch sd) FU a (nI m) (0 : Int32) = _ from y1, show fX5_spread_L14 _ (eM n c k w l d f wm hr b ch sd P Q) FU a (nI m) (0 : Int32) = _ from y2]
        exact ih (m + 1) fu y (by omega) (by omega)
  exact q c 0 FU 0 (by omega) (by show c < 1100; omega)
theorem mid {pf pm : Int32} (hc : c ≤ 10) (hp : (pf = 0 ∧ ¬ pm = 0) ∨ (¬ pf = 0 ∧ pm = 0)) : ∃ y, fX1_middle pf (eH n c k w l d f wm hr b ch sd) = fX1_middle_j46 pf (eH n c k w l d f wm hr b ch sd) y ∧ fX5_sumOf pm (eM n c k w l d f wm hr b ch sd P Q) = some y := by
  have q : ∀ (r j fu : Nat) (a : Int32), j + r = c → r < fu → ∃ y, fX1_middle_L4 pf (eH n c k w l d f wm hr b ch sd) fu a (nI j) = fX1_middle_j46 pf (eH n c k w l d f wm hr b ch sd) y ∧ fX5_sumOf_L4 pm (eM n c k w l d f wm hr b ch sd P Q) fu a (nI j) = some y := by
    intro r
    induction r with
    | zero =>
      intro j fu a e hf
      obtain rfl : j = c := by omega
      cases fu with
      | zero => omega
      | succ fu =>
        unfold fX1_middle_L4 fX5_sumOf_L4
        simp only [e_side, e_count, e_kind, e_weight, e_cell, e_doors, e_fan, e_warm, e_hour, e_beam, e_chance, e_seed, f_n, f_motes, f_kind, f_own, f_cell, f_doors, f_ways, f_seed, if_pos (nI_le (Nat.le_refl j) (show j < 2 ^ 31 by omega))]
        exact ⟨a, rfl, rfl⟩
    | succ r ih =>
      intro j fu a e hf
      cases fu with
      | zero => omega
      | succ fu =>
        unfold fX1_middle_L4 fX5_sumOf_L4 fX1_middle_j38 fX5_sumOf_j38
        simp only [e_side, e_count, e_kind, e_weight, e_cell, e_doors, e_fan, e_warm, e_hour, e_beam, e_chance, e_seed, f_n, f_motes, f_kind, f_own, f_cell, f_doors, f_ways, f_seed, if_neg (nI_ge (show j < c by omega) (show c < 2 ^ 31 by omega)), u_gd (show j < 10 by omega) (show 10 < 2 ^ 31 by decide), u_ix (show j < 2 ^ 31 by omega), nI_1]
        rcases hp with ⟨h1, h2⟩ | ⟨h1, h2⟩
        · simp only [if_pos h1, if_neg h2]
          exact ih (j + 1) fu _ (by omega) (by omega)
        · simp only [if_neg h1, if_pos h2]
          exact ih (j + 1) fu _ (by omega) (by omega)
  exact q c 0 FU 0 (by omega) (by show c < 1100; omega)
theorem c_centre (hR : Rel S M) : Out (fX4_centre p1 p2 S) (fX5_centre p1 p2 M) := by
  obtain ⟨n, c, k, w, l, d, f, wm, hr, b, ch, sd, P, Q, hx, rfl, h, hX⟩ := hR
  have hR := rel_s (Q := Q) hx h hX
  have hc := h.hc
  unfold fX4_centre fX5_centre fX4_centre_j16 fX5_centre_j16 fX4_centre_j45 fX5_centre_j77 fX4_centre_j78
  rcases time_cases p1 with ⟨a, a'⟩ | ⟨t, ht, rfl, a, a'⟩
  · rw [a, a']
    simp only [bs, ↓reduceIte]
    exact out2 hR
  rw [a, a', x_la hx h hX.1.1 ht]
  simp only [bs, one0, ↓reduceIte]
  rcases wi_cases (N := 2) (2 : Int32) p2 rfl (by decide) with ⟨e, h1 | ⟨h1, h2, h3⟩⟩ | ⟨v, hv, rfl, h1, h2, h3, e⟩
  · rw [e, if_pos h1]
    simp only [bs, ↓reduceIte]
    exact out2 hR
  · rw [e, if_neg h1, if_neg h3]
    simp only [bs, ↓reduceIte]
    exact out2 hR
  rw [e, if_neg h1, if_pos h3, hx]
  simp only [bs, one0, ↓reduceIte, xtg, e_side, e_count, e_kind, e_weight, e_cell, e_doors, e_fan, e_warm, e_hour, e_beam, e_chance, e_seed, f_n, f_motes, f_kind, f_own, f_cell, f_doors, f_ways, f_seed]
  obtain ⟨Q', eq, hW⟩ := m_goesOn (sd := sd) (P := P) (Q := Q) h (show t ≤ 1000 by omega)
  obtain ⟨y, y1, y2⟩ := spr (n := n) (k := k) (w := w) (l := cl n c k l d f wm b hr t) (d := d) (f := f) (wm := wm) (hr := hrs hr t) (b := b) (ch := ch) (sd := sd) (P := P) (Q := Q') hc
  rw [eq]
  simp only [bs, f_n, f_motes, f_kind, f_own, f_cell, f_doors, f_ways, f_seed]
  have hv5 : v = 0 ∨ v = 1 ∨ v = 2 := by omega
  by_cases h0 : c = 0
  · subst h0
    simp (decide := true) only [↓reduceIte]
    rcases hv5 with rfl | rfl | rfl
    · simp (decide := true) only [↓reduceIte]
      exact out5 hR
    · simp (decide := true) only [↓reduceIte]
      exact out5 hR
    · simp (decide := true) only [↓reduceIte]
      have z : fX1_spread (eH n 0 k w (cl n 0 k l d f wm b hr t) d f wm (hrs hr t) b ch sd) = some 0 := by
        unfold fX1_spread fX1_spread_L4
        rw [e_count]
        rfl
      rw [z]
      simp only [bs]
      exact rel_e hx h hX h.after.zh rfl
  · have hc0 : ¬ nI c = 0 := nI_ne0 (by omega) (by omega)
    simp only [if_neg hc0]
    rcases hv5 with rfl | rfl | rfl
    · obtain ⟨z, z1, z2⟩ := mid (n := n) (k := k) (w := w) (l := cl n c k l d f wm b hr t) (d := d) (f := f) (wm := wm) (hr := hrs hr t) (b := b) (ch := ch) (sd := sd) (P := P) (Q := Q') (pf := 1) (pm := nI 0) hc (Or.inr ⟨by decide, by decide⟩)
      simp (decide := true) only [↓reduceIte]
      rw [z1, z2]
      unfold fX1_middle_j46
      simp only [bs, e_side, e_count, e_kind, e_weight, e_cell, e_doors, e_fan, e_warm, e_hour, e_beam, e_chance, e_seed]
      rw [if_neg (show ¬ nI c ≤ 0 from nI_nle (by omega) (by omega)), if_neg hc0, m_end h hW]
      exact rel_e hx h hX h.after.zh rfl
    · obtain ⟨z, z1, z2⟩ := mid (n := n) (k := k) (w := w) (l := cl n c k l d f wm b hr t) (d := d) (f := f) (wm := wm) (hr := hrs hr t) (b := b) (ch := ch) (sd := sd) (P := P) (Q := Q') (pf := 0) (pm := nI 1) hc (Or.inl ⟨rfl, by decide⟩)
      simp (decide := true) only [↓reduceIte]
      rw [z1, z2]
      unfold fX1_middle_j46
      simp only [bs, e_side, e_count, e_kind, e_weight, e_cell, e_doors, e_fan, e_warm, e_hour, e_beam, e_chance, e_seed]
      rw [if_neg (show ¬ nI c ≤ 0 from nI_nle (by omega) (by omega)), if_neg hc0, m_end h hW]
      exact rel_e hx h hX h.after.zh rfl
    · simp (decide := true) only [↓reduceIte]
      rw [y1, y2]
      simp only [bs]
      rw [m_end h hW]
      exact rel_e hx h hX h.after.zh rfl
/-! steps in truth -/
theorem c_steps (hR : Rel S M) : Out (fX4_steps p1 S) (fX5_steps p1 M) := by
  obtain ⟨n, c, k, w, l, d, f, wm, hr, b, ch, sd, P, Q, hx, rfl, h, hX⟩ := hR
  have hR := rel_s (Q := Q) hx h hX
  unfold fX4_steps fX5_steps fX4_steps_j11 fX5_within
  by_cases h1 : p1 < 1
  · simp only [if_pos h1, bs, ↓reduceIte]
    exact out2 hR
  rcases in3 (N := 24) (24 : Int32) p1 rfl (by decide) with h0 | ⟨-, h2, h3⟩ | ⟨t, ht, rfl, -, h2, h3⟩
  · exact absurd h0 (nn_lt h1 (by decide))
  · simp only [if_neg h1, if_pos h2, if_neg h3, bs, ↓reduceIte]
    exact out2 hR
  simp only [if_neg h1, if_neg h2, if_pos h3, bs, one0, ↓reduceIte]
  have q : ∀ (r i fu : Nat), i + r = t → r < fu → fX5_steps_L19 (nI t) fu (nI i) (eM n c k w (cl n c k l d f wm b hr i) d f wm (hrs hr i) b ch sd P Q) = some (nI (lw n b (hrs hr t) c w (cl n c k l d f wm b hr t)), eM n c k w (cl n c k l d f wm b hr t) d f wm (hrs hr t) b ch sd P Q) := by
    intro r
    induction r with
    | zero =>
      intro i fu e hf
      obtain rfl : i = t := by omega
      cases fu with
      | zero => omega
      | succ fu =>
        unfold fX5_steps_L19
        rw [if_pos (nI_le (Nat.le_refl _) (by omega)), m_vn h.after]
        rfl
    | succ r ih =>
      intro i fu e hf
      cases fu with
      | zero => omega
      | succ fu =>
        unfold fX5_steps_L19
        rw [if_neg (nI_ge (show i < t by omega) (by omega)), m_step h]
        simp only [bs]
        rw [nI_1]
        exact ih (i + 1) fu (by omega) (by omega)
  have := q t 0 FU (by omega) (by show t < 1100; omega)
  rw [cl_0, hrs_0 h.hp.2.2.2.2.1] at this
  rw [hx, x_goOn h (by omega), show fX5_steps_L19 (nI t) FU (0 : Int32) (eM n c k w l d f wm hr b ch sd P Q) = _ from this]
  simp only [bs]
  rw [x_lw h.after]
  exact ⟨_, _, _, rfl, rfl, rel_now h.after hX (Nat.le_refl _)⟩
theorem draw4 {k21 : Int32 → Int32 → MT → Option (Int32 × MT)} {v2 v3 : Int32} : ∀ (r j fu d : Nat) (sd : Int32), j + r = 4 → r < fu → d < 16 → ∃ d' sd', d' < 16 ∧ fX1_drawDoors_L2 fu (nI j) (eH n c k w l d f wm hr b ch sd) = some (eH n c k w l d' f wm hr b ch sd') ∧ fX5_hours_L29 k21 p1 fu v2 v3 (nI j) (eM n c k w l d f wm hr b ch sd P Q) = fX5_hours_j67 k21 p1 v2 v3 (eM n c k w l d' f wm hr b ch sd' P Q) := by
  intro r
  induction r with
  | zero =>
    intro j fu d sd e hf hd
    obtain rfl : j = 4 := by omega
    cases fu with
    | zero => omega
    | succ fu =>
      refine ⟨d, sd, hd, ?_, ?_⟩
      · unfold fX1_drawDoors_L2
        rw [if_pos (show (4 : Int32) ≤ nI 4 by decide)]
      · unfold fX5_hours_L29
        rw [if_pos (show (4 : Int32) ≤ nI 4 by decide)]
  | succ r ih =>
    intro j fu d sd e hf hd
    cases fu with
    | zero => omega
    | succ fu =>
      unfold fX1_drawDoors_L2 fX5_hours_L29 fX1_draw fX5_draw fX1_drawDoors_j25 fX5_hours_j58
      have h4 : ¬ (4 : Int32) ≤ nI j := nI_ge (a := j) (b := 4) (by omega) (by omega)
      have h12 : ¬ (12 : Int32) = 0 := by decide
      simp only [if_neg h4, if_neg h12, bs, e_side, e_count, e_kind, e_weight, e_cell, e_doors, e_fan, e_warm, e_hour, e_beam, e_chance, e_seed, f_n, f_motes, f_kind, f_own, f_cell, f_doors, f_ways, f_seed, es_seed, fs_seed, wy_g0, wy_g1, wy_g2, wy_g3, wy_g4, ix0, ix1, ix2, ix3, ix4, g05, g15, g25, g35, g45]
      generalize sd * (1103515245 : Int32) + (12345 : Int32) = sd2
      by_cases q : nI ch ≤ irm (jushr sd2 (16 : Int32)) (12 : Int32)
      · simp only [if_pos q]
        rw [x_sd hd (by omega), m_op hd (by omega)]
        simp only [bs]
        rw [nI_1]
        exact ih (j + 1) fu _ sd2 (by omega) (by omega) (dset_lt hd (by omega))
      · simp only [if_neg q]
        rw [x_sd hd (by omega), m_op hd (by omega)]
        simp only [bs]
        rw [nI_1]
        exact ih (j + 1) fu _ sd2 (by omega) (by omega) (dset_lt hd (by omega))
theorem xng {A : HallT} : x_now (xs_now S A) = A := id rfl
theorem xnn {A B : HallT} : xs_now (xs_now S A) B = xs_now S B := id rfl
theorem hoursL {T : Nat} (hT : T ≤ 60) (hX : RX S P c) : ∀ (r i fu : Nat) (a : Int32) (l : Nat → Nat) (d hr : Nat) (sd : Int32), HI n c k w l d f wm hr b ch → i + r = T → r < fu → Out (fX4_hours_L22 (nI T) fu a (nI i) (xs_now S (eH n c k w l d f wm hr b ch sd))) (fX5_hours_L21 (nI T) fu a (nI i) (eM n c k w l d f wm hr b ch sd P Q)) := by
  intro r
  induction r with
  | zero =>
    intro i fu a l d hr sd h e hf
    obtain rfl : i = T := by omega
    cases fu with
    | zero => omega
    | succ fu =>
      unfold fX4_hours_L22 fX5_hours_L21
      simp only [if_pos (nI_le (Nat.le_refl i) (show i < 2 ^ 31 by omega))]
      exact ⟨_, _, _, rfl, rfl, rel_now h hX (Nat.le_refl _)⟩
  | succ r ih =>
    intro i fu a l d hr sd h e hf
    cases fu with
    | zero => omega
    | succ fu =>
      unfold fX4_hours_L22 fX5_hours_L21
      simp only [if_neg (nI_ge (show i < T by omega) (show T < 2 ^ 31 by omega)), xng]
      obtain ⟨d', sd', hd', e1, e2⟩ := draw4 (n := n) (c := c) (k := k) (w := w) (l := l) (f := f) (wm := wm) (hr := hr) (b := b) (ch := ch) (P := P) (Q := Q) (p1 := nI T) (k21 := fun v2 v3 S0 => fX5_hours_L21 (nI T) fu v2 v3 S0) (v2 := a) (v3 := nI i) 4 0 FU d sd (by omega) (by show 4 < 1100; omega) h.hp.2.1
      have h' : HI n c k w l d' f wm hr b ch := h.par ⟨h.hp.1, hd', h.hp.2.2⟩
      have ha := h'.after (t := 1)
      rw [show fX1_drawDoors (eH n c k w l d f wm hr b ch sd) = _ from e1, show fX5_hours_L29 _ (nI T) FU a (nI i) (0 : Int32) (eM n c k w l d f wm hr b ch sd P Q) = _ from e2]
      unfold fX5_hours_j67 fX5_hours_j81
      simp only [bs]
      rw [show fX1_goOn (1 : Int32) (eH n c k w l d' f wm hr b ch sd') = _ from x_goOn (t := 1) h' (by omega), m_step0 h']
      simp only [bs]
      rw [x_car ha, m_dc ha]
      unfold fX4_bit
      simp only [bs]
      rw [xnn, nI_1]
      split
      · simp only [one0, ↓reduceIte, bs]
        exact ih (i + 1) fu _ _ _ _ _ ha (by omega) (by omega)
      · simp only [↓reduceIte, bs]
        rw [Int32.add_zero]
        exact ih (i + 1) fu _ _ _ _ _ ha (by omega) (by omega)
theorem c_hours (hR : Rel S M) : Out (fX4_hours p1 S) (fX5_hours p1 M) := by
  obtain ⟨n, c, k, w, l, d, f, wm, hr, b, ch, sd, P, Q, hx, rfl, h, hX⟩ := hR
  have hR := rel_s (Q := Q) hx h hX
  unfold fX4_hours fX5_hours fX4_hours_j11 fX5_within
  by_cases h1 : p1 < 1
  · simp only [if_pos h1, bs, ↓reduceIte]
    exact out2 hR
  rcases in3 (N := 60) (60 : Int32) p1 rfl (by decide) with h0 | ⟨-, h2, h3⟩ | ⟨t, ht, rfl, -, h2, h3⟩
  · exact absurd h0 (nn_lt h1 (by decide))
  · simp only [if_neg h1, if_pos h2, if_neg h3, bs, ↓reduceIte]
    exact out2 hR
  simp only [if_neg h1, if_neg h2, if_pos h3, bs, one0, ↓reduceIte]
  have e : S = xs_now S (eH n c k w l d f wm hr b ch sd) := by
    rw [← hx]
    rfl
  have := hoursL (Q := Q) ht hX t 0 FU 0 l d hr sd h (by omega) (by show t < 1100; omega)
  rw [← e] at this
  exact this
end C4
