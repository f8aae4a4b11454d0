/-! ===== pure layer: one thing set otherwise ===== -/
theorem xbits : ∀ d, d < 16 → ∀ r, r < 4 → nI d ^^^ jshl (1 : Int32) (nI r) = nI (d ^^^ 2 ^ r) ∧ d ^^^ 2 ^ r < 16 := by decide +kernel
def tn (d r : Nat) : Nat := if r < 4 then d ^^^ 2 ^ r else d
theorem tn_lt {d r : Nat} (hd : d < 16) : tn d r < 16 := by
  unfold tn
  split
  · next h => exact (xbits d hd r h).2
  · exact hd
def ct (p : Nat → Bool) : Nat → Nat
  | 0 => 0
  | v + 1 => ct p v + (if v % 10 < 5 ∧ p v = true then 1 else 0)
theorem ct_gap {p : Nat → Bool} {a : Nat} : ∀ r, (∀ u, a ≤ u → u < a + r → ¬ u % 10 < 5) → ct p (a + r) = ct p a
  | 0, _ => rfl
  | r + 1, h => by
    show ct p (a + r) + _ = _
    rw [ct_gap r (fun u h1 h2 => h u h1 (by omega)), if_neg (fun q => h (a + r) (by omega) (by omega) q.1)]
    rfl
section C7
variable {n c : Nat} {k w l : Nat → Nat} {d f wm hr b ch : Nat} {sd : Int32} {P : PT} {Q : QT} {S : XT} {M : MT} {p1 p2 p3 p4 p5 : Int32}
theorem HI.sets {a e : Nat} (h : HI n c k w l d f wm hr b ch) (ha : a < 16) (he : e ≤ 4) : HI n c k w l a e wm hr b ch := h.par ⟨h.hp.1, ha, he, h.hp.2.2.2⟩
theorem x_lab {a e t : Nat} {T : HallT} (hx : x_now S = (eH n c k w l d f wm hr b ch sd)) (h : HI n c k w l d f wm hr b ch) (hZ : Zh T) (ha : a < 16) (he : e ≤ 4) (ht : t ≤ 24) : fX4_lookAheadBy (nI a) (nI e) (nI t) (xs_trial S T) = some (xs_trial S (eH n c k w (cl n c k l a e wm b hr t) a e wm (hrs hr t) b ch sd)) := by
  unfold fX4_lookAheadBy
  rw [xtg, xtn, hx, x_take hZ h.zh]
  simp only [bs, es_doors, xtt, xtg, es_fan]
  rw [x_goOn (h.sets ha he) (by omega)]
  rfl
theorem iset {v : Nat} (hv : v < 155) : fX5_isSetting (nI v).toInt64 = some (if v % 10 < 5 then (1 : Int32) else 0) := by
  rw [nI_l (by omega)]
  unfold fX5_isSetting
  simp only [lg_cmp_lt, lg_cmp_ge, lg_cmp_gt]
  have e1 : lN v / (10 : Int64) = lN (v / 10) := pk_lDiv (b := 10) (by omega) (by omega) (by omega)
  have e2 : lrm (lN v) (10 : Int64) = lN (v % 10) := pk_lRem (b := 10) (by omega) (by omega) (by omega)
  rw [if_neg (show ¬ lN v < (0 : Int64) from fun q => by
    have := (pk_lLT (a := v) (b := 0) (by omega) (by omega)).mp q
    omega), e1, e2, if_neg (show ¬ (16 : Int64) ≤ lN (v / 10) from fun q => by
    have := (pk_lLE (a := 16) (b := v / 10) (by omega) (by omega)).mp q
    omega), u_if (show (5 : Int64) ≤ lN (v % 10) ↔ 5 ≤ v % 10 from pk_lLE (a := 5) (b := v % 10) (by omega) (by omega))]
  by_cases q : v % 10 < 5
  · rw [if_pos q, if_neg (by omega)]
  · rw [if_neg q, if_pos (by omega)]
/-- a setting's number -/
abbrev cs (n c : Nat) (k w l : Nat → Nat) (wm hr b t v : Nat) : Bool := cb n c k w l (v / 10) (v % 10) wm hr b t
theorem nI10 {a e : Nat} : (10 : Int32) * nI a + nI e = nI (10 * a + e) := by
  rw [show (10 : Int32) * nI a = nI (10 * a) from pk_mul 10 a, nI_add]
theorem c_many (hR : Rel S M) : Out (fX4_many p1 S) (fX5_many p1 M) := by
  obtain ⟨n, c, k, w, l, d, f, wm, hr, b, ch, sd, P, Q, hx, rfl, h, hX⟩ := hR
  have hR := rel_s (Q := Q) hx h hX
  obtain ⟨hn, hd, hf, hp'⟩ := h.hp
  unfold fX4_many fX5_many
  rcases time_cases p1 with ⟨a, a'⟩ | ⟨t, ht, rfl, a, a'⟩
  · rw [a, a']
    simp only [bs, ↓reduceIte]
    exact out2 hR
  rw [a, a', m_sn hd hf]
  simp only [bs, one0, ↓reduceIte]
  have xi : ∀ (a : Nat), a < 16 → ∀ (kx : Int32 → Int32 → XT → Option (Int32 × XT)) (r e fu : Nat) (T : HallT), e + r = 5 → r < fu → Zh T → ∃ T', Zh T' ∧ fX4_many_L27 kx (nI t) fu (nI (ct (cs n c k w l wm hr b t) (10 * a + e))) (nI a) (nI e) (xs_trial S T) = kx (nI (ct (cs n c k w l wm hr b t) (10 * (a + 1)))) (nI (a + 1)) (xs_trial S T') := by
    intro a ha kx r
    induction r with
    | zero =>
      intro e fu T e1 hf hT
      obtain rfl : e = 5 := by omega
      cases fu with
      | zero => omega
      | succ fu =>
        refine ⟨T, hT, ?_⟩
        unfold fX4_many_L27
        rw [if_pos (show (4 : Int32) < nI 5 by decide), nI_1, show 10 * (a + 1) = 10 * a + 5 + 5 by omega, ct_gap (a := 10 * a + 5) 5 (fun u h1 h2 => by omega)]
    | succ r ih =>
      intro e fu T e1 hf hT
      cases fu with
      | zero => omega
      | succ fu =>
        have n4 : ¬ (4 : Int32) < nI e := nI_nlt (a := 4) (b := e) (by omega) (by omega)
        have h' := (h.sets ha (show e ≤ 4 by omega)).after (t := t)
        unfold fX4_many_L27 fX4_bit
        rw [if_neg n4, x_lab hx h hT ha (by omega) ht]
        simp only [bs, xtg]
        rw [x_car h', nI_1]
        simp only [bs]
        have ih' := ih (e + 1) fu _ (by omega) (by omega) (h'.zh (sd := sd))
        have ec : ct (cs n c k w l wm hr b t) (10 * a + (e + 1)) = ct (cs n c k w l wm hr b t) (10 * a + e) + (if sm w c < 2 * vb n c k w l a e wm hr b t then 1 else 0) := by
          rw [show 10 * a + (e + 1) = (10 * a + e) + 1 from rfl, ct]
          have q1 : cs n c k w l wm hr b t (10 * a + e) = decide (sm w c < 2 * vb n c k w l a e wm hr b t) := by
            show cb n c k w l ((10 * a + e) / 10) ((10 * a + e) % 10) wm hr b t = _
            rw [show (10 * a + e) / 10 = a by omega, show (10 * a + e) % 10 = e by omega]
          rw [q1]
          by_cases q : sm w c < 2 * vb n c k w l a e wm hr b t
          · rw [if_pos q, if_pos ⟨by omega, decide_eq_true q⟩]
          · rw [if_neg q, if_neg (fun z => q (of_decide_eq_true z.2))]
        rw [ec] at ih'
        by_cases q : sm w c < 2 * vb n c k w l a e wm hr b t
        · simp only [if_pos q, one0, ↓reduceIte, bs] at ih' ⊢
          rw [nI_1]
          exact ih'
        · simp only [if_neg q, ↓reduceIte, bs] at ih' ⊢
          rw [Int32.add_zero]
          exact ih'
  have xo : ∀ (r a fu : Nat) (T : HallT), a + r = 16 → r < fu → Zh T → ∃ T', Zh T' ∧ fX4_many_L18 (nI t) fu (nI (ct (cs n c k w l wm hr b t) (10 * a))) (nI a) (xs_trial S T) = some (nI (ct (cs n c k w l wm hr b t) 160), xs_trial S T') := by
    intro r
    induction r with
    | zero =>
      intro a fu T e hf hT
      obtain rfl : a = 16 := by omega
      cases fu with
      | zero => omega
      | succ fu =>
        refine ⟨T, hT, ?_⟩
        unfold fX4_many_L18
        rw [if_pos (show (16 : Int32) ≤ nI 16 by decide)]
    | succ r ih =>
      intro a fu T e hf hT
      cases fu with
      | zero => omega
      | succ fu =>
        unfold fX4_many_L18
        rw [if_neg (show ¬ (16 : Int32) ≤ nI a from nI_ge (a := a) (b := 16) (by omega) (by omega))]
        obtain ⟨T1, hT1, e1⟩ := xi a (by omega) (fun v2 v3 S0 => fX4_many_L18 (nI t) fu v2 v3 S0) 5 0 FU T (by omega) (by show 5 < 1100; omega) hT
        rw [show fX4_many_L27 _ (nI t) FU (nI (ct (cs n c k w l wm hr b t) (10 * a))) (nI a) (0 : Int32) (xs_trial S T) = _ from e1]
        exact ih (a + 1) fu T1 (by omega) (by omega) hT1
  have mo : ∀ (r v fu : Nat) (d' f' : Nat) (Q : QT), v + r = 155 → r < fu → ∃ Q', fX5_many_L24 (nI t) fu (nI (10 * d + f)) (nI (ct (cs n c k w l wm hr b t) v)) (nI v) (eM n c k w l d' f' wm hr b ch sd P Q) = some (nI (ct (cs n c k w l wm hr b t) 155), eM n c k w l d f wm hr b ch sd P Q') := by
    intro r
    induction r with
    | zero =>
      intro v fu d' f' Q e hf'
      obtain rfl : v = 155 := by omega
      cases fu with
      | zero => omega
      | succ fu =>
        refine ⟨Q, ?_⟩
        unfold fX5_many_L24
        rw [if_pos (show (155 : Int32) ≤ nI 155 by decide), m_sets hd (by omega)]
        rfl
    | succ r ih =>
      intro v fu d' f' Q e hf'
      cases fu with
      | zero => omega
      | succ fu =>
        unfold fX5_many_L24 fX5_many_j61
        rw [if_neg (show ¬ (155 : Int32) ≤ nI v from nI_ge (a := v) (b := 155) (by omega) (by omega)), iset (by omega), nI_1]
        simp only [bs]
        by_cases q : v % 10 < 5
        · simp only [if_pos q, one0, ↓reduceIte]
          have es := m_sets (n := n) (c := c) (k := k) (w := w) (l := l) (d := d') (f := f') (wm := wm) (hr := hr) (b := b) (ch := ch) (sd := sd) (P := P) (Q := Q) (a := v / 10) (e := v % 10) (by omega) (by omega)
          rw [isC_eq] at es
          obtain ⟨Q1, e1⟩ := m_cb (sd := sd) (P := P) (Q := Q) (h.sets (show v / 10 < 16 by omega) (show v % 10 ≤ 4 by omega)) (show t ≤ 1000 by omega)
          rw [es]
          simp only [bs]
          rw [e1]
          simp only [bs]
          have ih' := ih (v + 1) fu (v / 10) (v % 10) Q1 (by omega) (by omega)
          rw [ct] at ih'
          by_cases q2 : sm w c < 2 * vb n c k w l (v / 10) (v % 10) wm hr b t
          · rw [if_pos ⟨q, decide_eq_true q2⟩] at ih'
            simp only [if_pos q2, one0, ↓reduceIte]
            rw [nI_1]
            exact ih'
          · rw [if_neg (fun z => q2 (of_decide_eq_true z.2))] at ih'
            simp only [if_neg q2, ↓reduceIte]
            exact ih'
        · simp only [if_neg q, ↓reduceIte]
          have ih' := ih (v + 1) fu d' f' Q (by omega) (by omega)
          rw [ct, if_neg (fun z => q z.1)] at ih'
          exact ih'
  obtain ⟨T, hT, e1⟩ := xo 16 0 FU (x_trial S) (by omega) (by show 16 < 1100; omega) hX.1.1
  obtain ⟨Q', e2⟩ := mo 155 0 FU d f Q (by omega) (by show 155 < 1100; omega)
  rw [show fX4_many_L18 (nI t) FU (0 : Int32) (0 : Int32) S = _ from e1, show fX5_many_L24 (nI t) FU (nI (10 * d + f)) (0 : Int32) (0 : Int32) (eM n c k w l d f wm hr b ch sd P Q) = _ from e2, show 160 = 155 + 5 from rfl, ct_gap 5 (fun u h1 h2 => by omega)]
  exact rel_e hx h hX hT rfl
theorem c_beamFor (hR : Rel S M) : Out (fX4_beamFor p1 S) (fX5_beamFor p1 M) := by
  obtain ⟨n, c, k, w, l, d, f, wm, hr, b, ch, sd, P, Q, hx, rfl, h, hX⟩ := hR
  have hR := rel_s (Q := Q) hx h hX
  obtain ⟨hn, hd, hf, hw, hh, hb⟩ := h.hp
  unfold fX4_beamFor fX5_beamFor
  rcases time_cases p1 with ⟨a, a'⟩ | ⟨t, ht, rfl, a, a'⟩
  · rw [a, a']
    simp only [bs, ↓reduceIte]
    exact out2 hR
  rw [a, a']
  simp only [bs, one0, ↓reduceIte, f_n, f_motes, f_kind, f_own, f_cell, f_doors, f_ways, f_seed, wy_g0, wy_g1, wy_g2, wy_g3, wy_g4, ix0, ix1, ix2, ix3, ix4, g05, g15, g25, g35, g45]
  have q : ∀ (r i fu : Nat) (m y : Int32) (T : HallT) (b' : Nat) (Q : QT), i + r = 7 → r < fu → Zh T → Out (fX4_beamFor_L21 (nI t) fu m y (nI i) (xs_trial S T)) (fX5_beamFor_L29 (nI t) fu (nI b) y m (nI i) (eM n c k w l d f wm hr b' ch sd P Q)) := by
    intro r
    induction r with
    | zero =>
      intro i fu m y T b' Q e hf' hT
      obtain rfl : i = 7 := by omega
      cases fu with
      | zero => omega
      | succ fu =>
        unfold fX4_beamFor_L21 fX5_beamFor_L29 fX5_beamFor_j74
        rw [if_pos (show (6 : Int32) < nI 7 by decide), if_pos (show (7 : Int32) ≤ nI 7 by decide)]
        simp only [bs, f_n, f_motes, f_kind, f_own, f_cell, f_doors, f_ways, f_seed, wy_g0, wy_g1, wy_g2, wy_g3, wy_g4, ix0, ix1, ix2, ix3, ix4, g05, g15, g25, g35, g45, wy_s3, fs_ways]
        exact rel_e hx h hX hT rfl
    | succ r ih =>
      intro i fu m y T b' Q e hf' hT
      cases fu with
      | zero => omega
      | succ fu =>
        have h' : HI n c k w l d f wm hr i ch := h.par ⟨hn, hd, hf, hw, hh, by omega⟩
        have n6 : ¬ (6 : Int32) < nI i := nI_nlt (a := 6) (b := i) (by omega) (by omega)
        have n7 : ¬ (7 : Int32) ≤ nI i := nI_ge (a := i) (b := 7) (by omega) (by omega)
        unfold fX4_beamFor_L21 fX5_beamFor_L29 fX4_beamFor_j77 fX5_beamFor_j68
        rw [if_neg n6, if_neg n7, xtg, xtn, hx, x_take hT h.zh]
        simp only [bs, es_beam, f_n, f_motes, f_kind, f_own, f_cell, f_doors, f_ways, f_seed, wy_g0, wy_g1, wy_g2, wy_g3, wy_g4, ix0, ix1, ix2, ix3, ix4, g05, g15, g25, g35, g45, wy_s3, fs_ways]
        obtain ⟨Q1, e1⟩ := m_vb (sd := sd) (P := P) (Q := Q) h' (show t ≤ 1000 by omega)
        rw [x_goOn h' (by omega), e1]
        simp only [bs]
        rw [x_lw h'.after, xtt, nI_1]
        simp only [bs]
        by_cases q2 : nI (vb n c k w l d f wm hr i t) ≤ m
        · rw [if_pos q2, if_neg (Int32.not_lt.mpr q2)]
          exact ih (i + 1) fu _ _ _ _ Q1 (by omega) (by omega) h'.after.zh
        · rw [if_neg q2, if_pos (Int32.not_le.mp q2)]
          exact ih (i + 1) fu _ _ _ _ Q1 (by omega) (by omega) h'.after.zh
  exact q 7 0 FU (cI (-1)) 0 (x_trial S) b Q (by omega) (by show 7 < 1100; omega) hX.1.1
theorem nm_w {wm' x : Nat} (hw : 5 ≤ wm ↔ 5 ≤ wm') : nm n d f wm hr x = nm n d f wm' hr x := by
  unfold nm
  exact u_if (by rw [hw])
theorem nxt_w {wm' kk x : Nat} (hw : 5 ≤ wm ↔ 5 ≤ wm') : nxt n d f wm b hr kk x = nxt n d f wm' b hr kk x := by
  unfold nxt
  rw [nm_w hw]
theorem wk_w {wm' kk x : Nat} (hw : 5 ≤ wm ↔ 5 ≤ wm') : ∀ t, wk n d f wm b hr kk x t = wk n d f wm' b hr kk x t
  | 0 => rfl
  | t + 1 => by
    show nxt n d f wm b (hrs hr t) kk _ = nxt n d f wm' b (hrs hr t) kk _
    rw [wk_w hw t, nxt_w hw]
theorem vb_w {wm' t : Nat} (hw : 5 ≤ wm ↔ 5 ≤ wm') : vb n c k w l d f wm hr b t = vb n c k w l d f wm' hr b t := by
  show lw n b (hrs hr t) c w (cl n c k l d f wm b hr t) = lw n b (hrs hr t) c w (cl n c k l d f wm' b hr t)
  have : cl n c k l d f wm b hr t = cl n c k l d f wm' b hr t := by
    funext i
    unfold cl
    rw [wk_w hw t]
  rw [this]
theorem c_warmthFor (hR : Rel S M) : Out (fX4_warmthFor p1 S) (fX5_warmthFor p1 M) := by
  obtain ⟨n, c, k, w, l, d, f, wm, hr, b, ch, sd, P, Q, hx, rfl, h, hX⟩ := hR
  have hR := rel_s (Q := Q) hx h hX
  obtain ⟨hn, hd, hf, hw, hh, hb⟩ := h.hp
  unfold fX4_warmthFor fX5_warmthFor
  rcases time_cases p1 with ⟨a, a'⟩ | ⟨t, ht, rfl, a, a'⟩
  · rw [a, a']
    simp only [bs, ↓reduceIte]
    exact out2 hR
  rw [a, a']
  simp only [bs, one0, ↓reduceIte, f_n, f_motes, f_kind, f_own, f_cell, f_doors, f_ways, f_seed, wy_g0, wy_g1, wy_g2, wy_g3, wy_g4, ix0, ix1, ix2, ix3, ix4, g05, g15, g25, g35, g45]
  have mo : ∀ (i fu : Nat) (wm' : Nat) (Q : QT), i ≤ 10 → i < fu → ∃ Q', fX5_warmthFor_L27 (nI t) fu (nI wm) (ff (fun v => cb n c k w l d f v hr b t) (10 - i) i) (nI i - 1) (eM n c k w l d f wm' hr b ch sd P Q) = some (ff (fun v => cb n c k w l d f v hr b t) 10 0, eM n c k w l d f wm hr b ch sd P Q') := by
    intro i
    induction i with
    | zero =>
      intro fu wm' Q hi hf'
      cases fu with
      | zero => omega
      | succ fu =>
        refine ⟨Q, ?_⟩
        unfold fX5_warmthFor_L27 fX5_warmthFor_j57
        rw [if_pos (by decide)]
        simp only [bs, f_n, f_motes, f_kind, f_own, f_cell, f_doors, f_ways, f_seed, wy_g0, wy_g1, wy_g2, wy_g3, wy_g4, ix0, ix1, ix2, ix3, ix4, g05, g15, g25, g35, g45, wy_s1, fs_ways]
    | succ i ih =>
      intro fu wm' Q hi hf'
      cases fu with
      | zero => omega
      | succ fu =>
        have h' : HI n c k w l d f i hr b ch := h.par ⟨hn, hd, hf, by omega, hh, hb⟩
        unfold fX5_warmthFor_L27 fX5_warmthFor_j51
        rw [nI_pred, if_neg (nI_pos (by omega))]
        simp only [bs, f_n, f_motes, f_kind, f_own, f_cell, f_doors, f_ways, f_seed, wy_g0, wy_g1, wy_g2, wy_g3, wy_g4, ix0, ix1, ix2, ix3, ix4, g05, g15, g25, g35, g45, wy_s1, fs_ways]
        obtain ⟨Q1, e1⟩ := m_cb (sd := sd) (P := P) (Q := Q) h' (show t ≤ 1000 by omega)
        rw [e1]
        simp only [bs]
        have ih' := ih fu i Q1 (by omega) (by omega)
        rw [show 10 - i = (10 - (i + 1)) + 1 by omega, ff] at ih'
        rw [show nI i + cI (-1) = nI i - 1 by
          apply Int32.toInt_inj.mp
          rw [show cI (-1) = -1 by decide, Int32.sub_eq_add_neg]]
        by_cases q2 : sm w c < 2 * vb n c k w l d f i hr b t
        · rw [if_pos (show cb n c k w l d f i hr b t = true from decide_eq_true q2)] at ih'
          simp only [if_pos q2, one0, ↓reduceIte]
          exact ih'
        · rw [if_neg (show ¬ cb n c k w l d f i hr b t = true from fun z => q2 (of_decide_eq_true z))] at ih'
          simp only [if_neg q2, ↓reduceIte]
          exact ih'
  obtain ⟨Q', e2⟩ := mo 10 FU wm Q (by omega) (by show 10 < 1100; omega)
  rw [show fX5_warmthFor_L27 (nI t) FU (nI wm) (cI (-1)) (9 : Int32) (eM n c k w l d f wm hr b ch sd P Q) = _ from e2]
  have hc0 : ∀ v, v < 5 → cb n c k w l d f v hr b t = cb n c k w l d f 0 hr b t := fun v hv => by
    show decide _ = decide _
    rw [vb_w (wm := v) (wm' := 0) (by omega)]
  have hc5 : ∀ v, 5 ≤ v → cb n c k w l d f v hr b t = cb n c k w l d f 5 hr b t := fun v hv => by
    show decide _ = decide _
    rw [vb_w (wm := v) (wm' := 5) (by omega)]
  have hff : ff (fun v => cb n c k w l d f v hr b t) 10 0 = if cb n c k w l d f 0 hr b t = true then (0 : Int32) else if cb n c k w l d f 5 hr b t = true then (5 : Int32) else cI (-1) := by
    have e : ff (fun v => cb n c k w l d f v hr b t) 10 0 = (if cb n c k w l d f 0 hr b t = true then nI 0 else if cb n c k w l d f 1 hr b t = true then nI 1 else if cb n c k w l d f 2 hr b t = true then nI 2 else if cb n c k w l d f 3 hr b t = true then nI 3 else if cb n c k w l d f 4 hr b t = true then nI 4 else if cb n c k w l d f 5 hr b t = true then nI 5 else if cb n c k w l d f 6 hr b t = true then nI 6 else if cb n c k w l d f 7 hr b t = true then nI 7 else if cb n c k w l d f 8 hr b t = true then nI 8 else if cb n c k w l d f 9 hr b t = true then nI 9 else cI (-1)) := rfl
    rw [e]
    by_cases q0 : cb n c k w l d f 0 hr b t = true
    · rw [if_pos q0, if_pos q0]
      rfl
    · rw [if_neg q0, if_neg q0]
      have q1 : ¬ cb n c k w l d f 1 hr b t = true := fun z => q0 ((hc0 1 (by omega)) ▸ z)
      have q2 : ¬ cb n c k w l d f 2 hr b t = true := fun z => q0 ((hc0 2 (by omega)) ▸ z)
      have q3 : ¬ cb n c k w l d f 3 hr b t = true := fun z => q0 ((hc0 3 (by omega)) ▸ z)
      have q4 : ¬ cb n c k w l d f 4 hr b t = true := fun z => q0 ((hc0 4 (by omega)) ▸ z)
      rw [if_neg q1, if_neg q2, if_neg q3, if_neg q4]
      by_cases q5 : cb n c k w l d f 5 hr b t = true
      · rw [if_pos q5, if_pos q5]
        rfl
      · rw [if_neg q5, if_neg q5]
        have q6 : ¬ cb n c k w l d f 6 hr b t = true := fun z => q5 ((hc5 6 (by omega)) ▸ z)
        have q7 : ¬ cb n c k w l d f 7 hr b t = true := fun z => q5 ((hc5 7 (by omega)) ▸ z)
        have q8 : ¬ cb n c k w l d f 8 hr b t = true := fun z => q5 ((hc5 8 (by omega)) ▸ z)
        have q9 : ¬ cb n c k w l d f 9 hr b t = true := fun z => q5 ((hc5 9 (by omega)) ▸ z)
        rw [if_neg q6, if_neg q7, if_neg q8, if_neg q9]
  rw [hff]
  have one : ∀ (v fu : Nat) (T : HallT), v ≤ 9 → v ≤ 5 → Zh T → ∃ T', Zh T' ∧ fX4_warmthFor_L16 (nI t) (fu + 1) (nI v) (xs_trial S T) = if cb n c k w l d f v hr b t = true then some (nI v, xs_trial S T') else fX4_warmthFor_L16 (nI t) fu (nI (v + 5)) (xs_trial S T') := by
    intro v fu T hv hv5 hT
    have h' : HI n c k w l d f v hr b ch := h.par ⟨hn, hd, hf, hv, hh, hb⟩
    refine ⟨_, (h'.after (t := t)).zh (sd := sd), ?_⟩
    conv => lhs; unfold fX4_warmthFor_L16
    rw [if_neg (show ¬ (5 : Int32) < nI v from nI_nlt (a := 5) (b := v) hv5 (by omega)), xtg, xtn, hx, x_take hT h.zh]
    simp only [bs, es_warm]
    rw [x_goOn h' (by omega)]
    simp only [bs]
    rw [x_car h'.after, xtt, show nI v + (5 : Int32) = nI (v + 5) from nI_add v 5]
    simp only [bs]
    by_cases q2 : sm w c < 2 * vb n c k w l d f v hr b t
    · rw [if_pos (show cb n c k w l d f v hr b t = true from decide_eq_true q2)]
      simp only [if_pos q2, one0, ↓reduceIte]
    · rw [if_neg (show ¬ cb n c k w l d f v hr b t = true from fun z => q2 (of_decide_eq_true z))]
      simp only [if_neg q2, ↓reduceIte]
  obtain ⟨T1, hT1, x1⟩ := one 0 1099 (x_trial S) (by omega) (by omega) hX.1.1
  rw [show fX4_warmthFor_L16 (nI t) FU (0 : Int32) S = _ from x1]
  by_cases q0 : cb n c k w l d f 0 hr b t = true
  · rw [if_pos q0, if_pos q0]
    exact rel_e hx h hX hT1 rfl
  rw [if_neg q0, if_neg q0]
  obtain ⟨T2, hT2, x2⟩ := one 5 1098 T1 (by omega) (by omega) hT1
  rw [show fX4_warmthFor_L16 (nI t) 1099 (nI (0 + 5)) (xs_trial S T1) = _ from x2]
  by_cases q5 : cb n c k w l d f 5 hr b t = true
  · rw [if_pos q5, if_pos q5]
    exact rel_e hx h hX hT2 rfl
  rw [if_neg q5, if_neg q5]
  unfold fX4_warmthFor_L16
  rw [if_pos (by decide)]
  exact rel_e hx h hX hT2 rfl
/-! doors turned -/
theorem x_tn {r : Nat} {T : HallT} (hx : x_now S = (eH n c k w l d f wm hr b ch sd)) (hd : d < 16) (hr' : r ≤ 4) : fX4_turned (nI r) (xs_trial S T) = some (nI (tn d r)) := by
  unfold fX4_turned fX4_turned_j23 tn
  rw [xtn, hx, e_doors, if_neg (nI_pos (by omega))]
  by_cases q : r < 4
  · rw [if_neg (show ¬ (4 : Int32) ≤ nI r from nI_ge (a := r) (b := 4) q (by omega)), if_pos q, (xbits d hd r q).1]
  · rw [if_pos (show (4 : Int32) ≤ nI r from nI_le (a := 4) (b := r) (by omega) (by omega)), if_neg q]
theorem m_tu {k14 : Int32 → Int32 → Int32 → Int32 → MT → Option (Int32 × MT)} {v4 v5 : Int32} {i d0 : Nat} {X : Option (Int32 × MT)} (hd : d0 < 16) (hi : i ≤ 4) : (if (4 : Int32) ≤ nI i then fX5_turns_j37 k14 p1 p2 (nI d0) v4 v5 (nI i) (nI d0) M else fX5_turns_j37 k14 p1 p2 (nI d0) v4 v5 (nI i) (nI d0 ^^^ jshl (1 : Int32) (nI i)) M) = fX5_turns_j37 k14 p1 p2 (nI d0) v4 v5 (nI i) (nI (tn d0 i)) M := by
  unfold tn
  by_cases q : i < 4
  · rw [if_neg (show ¬ (4 : Int32) ≤ nI i from nI_ge (a := i) (b := 4) q (by omega)), if_pos q, (xbits d0 hd i q).1]
  · rw [if_pos (show (4 : Int32) ≤ nI i from nI_le (a := 4) (b := i) (by omega) (by omega)), if_neg q]
theorem least {e t : Nat} (hx : x_now S = (eH n c k w l d f wm hr b ch sd)) (h : HI n c k w l d f wm hr b ch) (he : e ≤ 4) (ht : t ≤ 24) : ∀ (r i fu : Nat) (vx vm y : Int32) (T : HallT) (dd : Nat) (Q : QT), i + r = 5 → r < fu → Zh T → (0 < i → vx = vm) → (∃ r', r' ≤ 4 ∧ y = nI r') → ∃ (r' : Nat) (T' : HallT) (Q' : QT), r' ≤ 4 ∧ Zh T' ∧ fX4_leastDoor_L9 (nI e) (nI t) fu vx y (nI i) (xs_trial S T) = some (nI r', xs_trial S T') ∧ fX5_turns_L14 (nI t) (0 : Int32) fu (nI d) y vm (nI i) (eM n c k w l dd e wm hr b ch sd P Q) = some (nI r', eM n c k w l d e wm hr b ch sd P Q') := by
  have hd := h.hp.2.1
  intro r
  induction r with
  | zero =>
    intro i fu vx vm y T dd Q e1 hf' hT hv hy
    obtain rfl : i = 5 := by omega
    cases fu with
    | zero => omega
    | succ fu =>
      obtain ⟨r', hr', rfl⟩ := hy
      refine ⟨r', T, Q, hr', hT, ?_, ?_⟩
      · unfold fX4_leastDoor_L9
        rw [if_pos (show (4 : Int32) < nI 5 by decide)]
      · unfold fX5_turns_L14
        rw [if_pos (show (5 : Int32) ≤ nI 5 by decide)]
        simp only [bs, fs_doors]
  | succ r ih =>
    intro i fu vx vm y T dd Q e1 hf' hT hv hy
    cases fu with
    | zero => omega
    | succ fu =>
      have n4 : ¬ (4 : Int32) < nI i := nI_nlt (a := 4) (b := i) (by omega) (by omega)
      have n5 : ¬ (5 : Int32) ≤ nI i := nI_ge (a := i) (b := 5) (by omega) (by omega)
      have h' := h.sets (tn_lt (r := i) hd) he
      unfold fX4_leastDoor_L9 fX5_turns_L14
      rw [if_neg n4, if_neg n5, x_tn hx hd (by omega), m_tu (X := none) hd (by omega)]
      unfold fX4_leastDoor_j47 fX4_leastDoor_j54 fX5_turns_j37 fX5_turns_j76 fX5_turns_j84
      simp only [bs, fs_doors]
      obtain ⟨Q1, e2⟩ := m_vb (sd := sd) (P := P) (Q := Q) h' (show t ≤ 1000 by omega)
      rw [x_lab hx h hT (tn_lt hd) he ht, e2]
      simp only [bs, xtg]
      rw [x_lw h'.after, nI_1]
      simp only [bs, ↓reduceIte]
      by_cases i0 : i = 0
      · subst i0
        rw [if_pos (show nI 0 = 0 by decide), if_pos (show nI 0 ≤ 0 by decide)]
        exact ih 1 fu _ _ _ _ _ Q1 (by omega) (by omega) h'.after.zh (fun _ => rfl) ⟨0, by omega, rfl⟩
      · rw [if_neg (nI_ne0 (show 0 < i by omega) (by omega)), if_neg (nI_nle (show 0 < i by omega) (by omega))]
        have := hv (by omega)
        subst this
        by_cases q : vx ≤ nI (vb n c k w l (tn d i) e wm hr b t)
        · rw [if_pos q, if_neg (Int32.not_lt.mpr q)]
          exact ih (i + 1) fu _ _ _ _ _ Q1 (by omega) (by omega) h'.after.zh (fun _ => rfl) hy
        · rw [if_neg q, if_pos (Int32.not_le.mp q)]
          exact ih (i + 1) fu _ _ _ _ _ Q1 (by omega) (by omega) h'.after.zh (fun _ => rfl) ⟨i, by omega, rfl⟩
theorem least0 {e t : Nat} {T : HallT} (hx : x_now S = (eH n c k w l d f wm hr b ch sd)) (h : HI n c k w l d f wm hr b ch) (he : e ≤ 4) (ht : t ≤ 24) (hT : Zh T) : ∃ (r' : Nat) (T' : HallT) (Q' : QT), r' ≤ 4 ∧ Zh T' ∧ fX4_leastDoor (nI e) (nI t) (xs_trial S T) = some (nI r', xs_trial S T') ∧ fX5_turns (nI t) (0 : Int32) (eM n c k w l d e wm hr b ch sd P Q) = some (nI r', eM n c k w l d e wm hr b ch sd P Q') := by
  unfold fX4_leastDoor fX5_turns
  rw [f_doors]
  exact least hx h he ht 5 0 FU (90 : Int32) 0 0 T d Q (by omega) (by show 5 < 1100; omega) hT (by omega) ⟨0, by omega, rfl⟩
theorem c_answer (hR : Rel S M) : Out (fX4_answer p1 p2 S) (fX5_answer p1 p2 M) := by
  obtain ⟨n, c, k, w, l, d, f, wm, hr, b, ch, sd, P, Q, hx, rfl, h, hX⟩ := hR
  have hR := rel_s (Q := Q) hx h hX
  unfold fX4_answer fX5_answer fX4_answer_j16 fX5_answer_j16
  rcases time_cases p1 with ⟨a, a'⟩ | ⟨t, ht, rfl, a, a'⟩
  · rw [a, a']
    simp only [bs, ↓reduceIte]
    exact out2 hR
  rw [a, a']
  simp only [bs, one0, ↓reduceIte]
  rcases wi_cases (N := 4) (4 : Int32) p2 rfl (by decide) with ⟨e, h1 | ⟨h1, h2, h3⟩⟩ | ⟨v, hv, rfl, h1, h2, h3, e⟩
  · rw [e, if_pos h1]
    simp only [bs, ↓reduceIte]
    exact out2 hR
  · rw [e, if_neg h1, if_neg h3]
    simp only [bs, ↓reduceIte]
    exact out2 hR
  rw [e, if_neg h1, if_pos h3]
  simp only [bs, one0, ↓reduceIte, f_n, f_motes, f_kind, f_own, f_cell, f_doors, f_ways, f_seed, wy_g0, wy_g1, wy_g2, wy_g3, wy_g4, ix0, ix1, ix2, ix3, ix4, g05, g15, g25, g35, g45, wy_s0, fs_ways]
  obtain ⟨r', T', Q', hr', hT', e1, e2⟩ := least0 (sd := sd) (P := P) (Q := Q) (T := x_trial S) hx h hv ht hX.1.1
  rw [show fX4_leastDoor (nI v) (nI t) S = _ from e1, e2]
  simp only [bs, f_ways, wy_s0, fs_ways]
  exact rel_e hx h hX hT' rfl
theorem c_doorFor (hR : Rel S M) : Out (fX4_doorFor p1 S) (fX5_doorFor p1 M) := by
  obtain ⟨n, c, k, w, l, d, f, wm, hr, b, ch, sd, P, Q, hx, rfl, h, hX⟩ := hR
  have hR := rel_s (Q := Q) hx h hX
  have hd := h.hp.2.1
  have hf := h.hp.2.2.1
  unfold fX4_doorFor fX5_doorFor fX5_turns
  rcases time_cases p1 with ⟨a, a'⟩ | ⟨t, ht, rfl, a, a'⟩
  · rw [a, a']
    simp only [bs, ↓reduceIte]
    exact out2 hR
  rw [a, a', f_doors]
  simp only [bs, one0, ↓reduceIte]
  have q : ∀ (r i fu : Nat) (vx vm y : Int32) (T : HallT) (dd : Nat) (Q : QT), i + r = 5 → r < fu → Zh T → (0 < i → vx = vm) → (i = 0 → vx = cI (-1)) → Out (fX4_doorFor_L21 (nI t) fu vx y (nI i) (xs_trial S T)) ((fX5_turns_L14 (nI t) (1 : Int32) fu (nI d) y vm (nI i) (eM n c k w l dd f wm hr b ch sd P Q)).bind fun q5 => some (q5.1, q5.2)) := by
    intro r
    induction r with
    | zero =>
      intro i fu vx vm y T dd Q e1 hf' hT hv h0
      obtain rfl : i = 5 := by omega
      cases fu with
      | zero => omega
      | succ fu =>
        unfold fX4_doorFor_L21 fX5_turns_L14
        rw [if_pos (show (4 : Int32) < nI 5 by decide), if_pos (show (5 : Int32) ≤ nI 5 by decide)]
        simp only [bs, fs_doors]
        exact rel_e hx h hX hT rfl
    | succ r ih =>
      intro i fu vx vm y T dd Q e1 hf' hT hv h0
      cases fu with
      | zero => omega
      | succ fu =>
        have n4 : ¬ (4 : Int32) < nI i := nI_nlt (a := 4) (b := i) (by omega) (by omega)
        have n5 : ¬ (5 : Int32) ≤ nI i := nI_ge (a := i) (b := 5) (by omega) (by omega)
        have h' := h.sets (tn_lt (r := i) hd) hf
        have v90 : vb n c k w l (tn d i) f wm hr b t ≤ 90 := lw_le h
        unfold fX4_doorFor_L21 fX5_turns_L14
        rw [if_neg n4, if_neg n5, x_tn hx hd (by omega), m_tu (X := none) hd (by omega), xtn, show h_fan (x_now S) = nI f by rw [hx]; rfl]
        unfold fX4_doorFor_j66 fX5_turns_j37 fX5_turns_j76 fX5_turns_j84
        simp only [bs, fs_doors]
        obtain ⟨Q1, e2⟩ := m_vb (sd := sd) (P := P) (Q := Q) h' (show t ≤ 1000 by omega)
        rw [x_lab hx h hT (tn_lt hd) hf ht, e2]
        simp only [bs, xtg]
        rw [x_lw h'.after, nI_1]
        simp only [bs, one0, ↓reduceIte]
        by_cases i0 : i = 0
        · subst i0
          have := h0 rfl
          subst this
          rw [if_neg (show ¬ nI (vb n c k w l (tn d 0) f wm hr b t) ≤ cI (-1) from fun q => by
            have := Int32.le_iff_toInt_le.mp q
            rw [nI_toInt (by omega), show (cI (-1)).toInt = -1 by decide] at this
            omega), if_pos (show nI 0 ≤ 0 by decide)]
          exact ih 1 fu _ _ _ _ _ Q1 (by omega) (by omega) h'.after.zh (fun _ => rfl) (by omega)
        · rw [if_neg (nI_nle (show 0 < i by omega) (by omega))]
          have := hv (by omega)
          subst this
          by_cases q : nI (vb n c k w l (tn d i) f wm hr b t) ≤ vx
          · rw [if_pos q, if_neg (Int32.not_lt.mpr q)]
            exact ih (i + 1) fu _ _ _ _ _ Q1 (by omega) (by omega) h'.after.zh (fun _ => rfl) (by omega)
          · rw [if_neg q, if_pos (Int32.not_le.mp q)]
            exact ih (i + 1) fu _ _ _ _ _ Q1 (by omega) (by omega) h'.after.zh (fun _ => rfl) (by omega)
  exact q 5 0 FU (cI (-1)) 0 0 (x_trial S) d Q (by omega) (by show 5 < 1100; omega) hX.1.1 (by omega) (fun _ => rfl)
theorem c_whips (hR : Rel S M) : Out (fX4_whips p1 p2 S) (fX5_whips p1 p2 M) := by
  obtain ⟨n, c, k, w, l, d, f, wm, hr, b, ch, sd, P, Q, hx, rfl, h, hX⟩ := hR
  have hR := rel_s (Q := Q) hx h hX
  have hd := h.hp.2.1
  have hf := h.hp.2.2.1
  unfold fX4_whips fX5_whips fX4_whips_j16 fX5_whips_j16
  rcases time_cases p1 with ⟨a, a'⟩ | ⟨t, ht, rfl, a, a'⟩
  · rw [a, a']
    simp only [bs, ↓reduceIte]
    exact out2 hR
  rw [a, a']
  simp only [bs, one0, ↓reduceIte]
  rcases wi_cases (N := 1) (1 : Int32) p2 rfl (by decide) with ⟨e, h1 | ⟨h1, h2, h3⟩⟩ | ⟨v, hv, rfl, h1, h2, h3, e⟩
  · rw [e, if_pos h1]
    simp only [bs, ↓reduceIte]
    exact out2 hR
  · rw [e, if_neg h1, if_neg h3]
    simp only [bs, ↓reduceIte]
    exact out2 hR
  rw [e, if_neg h1, if_pos h3]
  simp only [bs, one0, ↓reduceIte, f_n, f_motes, f_kind, f_own, f_cell, f_doors, f_ways, f_seed, wy_g0, wy_g1, wy_g2, wy_g3, wy_g4, ix0, ix1, ix2, ix3, ix4, g05, g15, g25, g35, g45]
  have q : ∀ (r i fu : Nat) (m y : Int32) (T : HallT) (f' : Nat) (Q : QT), i + r = 5 → r < fu → Zh T → Out (fX4_whips_L31 (nI t) (nI v) fu m y (nI i) (xs_trial S T)) (fX5_whips_L39 (nI t) (nI v) fu (nI f) y m (nI i) (eM n c k w l d f' wm hr b ch sd P Q)) := by
    intro r
    induction r with
    | zero =>
      intro i fu m y T f' Q e1 hf' hT
      obtain rfl : i = 5 := by omega
      cases fu with
      | zero => omega
      | succ fu =>
        unfold fX4_whips_L31 fX5_whips_L39 fX4_whips_j83 fX5_whips_j90
        rw [if_pos (show (4 : Int32) < nI 5 by decide), if_pos (show (5 : Int32) ≤ nI 5 by decide)]
        simp only [bs, f_n, f_motes, f_kind, f_own, f_cell, f_doors, f_ways, f_seed, wy_g0, wy_g1, wy_g2, wy_g3, wy_g4, ix0, ix1, ix2, ix3, ix4, g05, g15, g25, g35, g45, wy_s0, fs_ways]
        by_cases q : nI v = 0
        · rw [if_pos q, if_pos q]
          exact rel_e hx h hX hT rfl
        · rw [if_neg q, if_neg q]
          exact rel_e hx h hX hT rfl
    | succ r ih =>
      intro i fu m y T f' Q e1 hf' hT
      cases fu with
      | zero => omega
      | succ fu =>
        have n4 : ¬ (4 : Int32) < nI i := nI_nlt (a := 4) (b := i) (by omega) (by omega)
        have n5 : ¬ (5 : Int32) ≤ nI i := nI_ge (a := i) (b := 5) (by omega) (by omega)
        unfold fX4_whips_L31 fX5_whips_L39 fX4_whips_j77 fX5_whips_j84 fX5_turnedVotes fX5_turnedVotes_j20
        rw [if_neg n4, if_neg n5]
        simp only [bs, f_n, f_motes, f_kind, f_own, f_cell, f_doors, f_ways, f_seed, wy_g0, wy_g1, wy_g2, wy_g3, wy_g4, ix0, ix1, ix2, ix3, ix4, g05, g15, g25, g35, g45, wy_s0, fs_ways]
        obtain ⟨r', T', Q', hr', hT', e2, e3⟩ := least0 (sd := sd) (P := P) (Q := Q) (T := T) hx h (show i ≤ 4 by omega) ht hT
        rw [e2, e3]
        simp only [bs, f_doors]
        have h' := h.sets (tn_lt (r := r') hd) (show i ≤ 4 by omega)
        obtain ⟨Q1, e4⟩ := m_vb (sd := sd) (P := P) (Q := Q') h' (show t ≤ 1000 by omega)
        have em : (if (4 : Int32) ≤ nI r' then (fX5_votesBehind (nI t) (ms_doors (eM n c k w l d i wm hr b ch sd P Q') (nI d))).bind fun q3 => some (q3.1, ms_doors q3.2 (nI d)) else (fX5_votesBehind (nI t) (ms_doors (eM n c k w l d i wm hr b ch sd P Q') (nI d ^^^ jshl (1 : Int32) (nI r')))).bind fun q3 => some (q3.1, ms_doors q3.2 (nI d))) = some (nI (vb n c k w l (tn d r') i wm hr b t), eM n c k w l d i wm hr b ch sd P Q1) := by
          by_cases q : r' < 4
          · rw [if_neg (show ¬ (4 : Int32) ≤ nI r' from nI_ge (a := r') (b := 4) q (by omega)), (xbits d hd r' q).1, fs_doors]
            rw [show tn d r' = d ^^^ 2 ^ r' from if_pos q] at e4 ⊢
            rw [e4]
            simp only [bs, fs_doors]
          · rw [if_pos (show (4 : Int32) ≤ nI r' from nI_le (a := 4) (b := r') (by omega) (by omega)), fs_doors]
            rw [show tn d r' = d from if_neg q] at e4 ⊢
            rw [e4]
            simp only [bs, fs_doors]
        rw [em, x_tn hx hd hr']
        simp only [bs]
        rw [x_lab hx h hT' (tn_lt hd) (by omega) ht]
        simp only [bs, xtg]
        rw [x_lw h'.after, nI_1]
        simp only [bs]
        by_cases q : nI (vb n c k w l (tn d r') i wm hr b t) ≤ m
        · rw [if_pos q, if_neg (Int32.not_lt.mpr q)]
          exact ih (i + 1) fu _ _ _ _ Q1 (by omega) (by omega) h'.after.zh
        · rw [if_neg q, if_pos (Int32.not_le.mp q)]
          exact ih (i + 1) fu _ _ _ _ Q1 (by omega) (by omega) h'.after.zh
  exact q 5 0 FU (cI (-1)) 0 (x_trial S) f Q (by omega) (by show 5 < 1100; omega) hX.1.1
end C7
