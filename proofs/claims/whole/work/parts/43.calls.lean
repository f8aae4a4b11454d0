/-! ===== pure layer: bestCell, thick, copy ===== -/
theorem sm_at {g : Nat → Nat} {m x : Nat} : ∀ {c : Nat}, m < c → sm (fun i => if i = m then x else g i) c = sm (fun i => if i = m then 0 else g i) c + x
  | 0, h => absurd h (Nat.not_lt_zero m)
  | c + 1, h => by
    rw [sm, sm]
    by_cases q : c = m
    · subst q
      rw [if_pos rfl, if_pos rfl, sm_cong (g := fun i => if i = c then 0 else g i) (fun i hi => by rw [if_neg (by omega), if_neg (by omega)])]
      omega
    · rw [sm_at (show m < c by omega), if_neg q, if_neg q]
      omega
theorem sm_pos {f : Nat → Nat} : ∀ {n : Nat}, 0 < sm f n → ∃ i, i < n ∧ 0 < f i
  | 0, h => absurd h (Nat.lt_irrefl 0)
  | n + 1, h => by
    rw [sm] at h
    by_cases q : 0 < f n
    · exact ⟨n, by omega, q⟩
    · obtain ⟨i, hi, hf⟩ := sm_pos (f := f) (n := n) (by omega)
      exact ⟨i, by omega, hf⟩
theorem sm_ge {f : Nat → Nat} {j : Nat} : ∀ {n : Nat}, j < n → f j ≤ sm f n
  | 0, h => absurd h (Nat.not_lt_zero j)
  | n + 1, h => by
    rw [sm]
    by_cases q : j = n
    · subst q
      omega
    · have := sm_ge (f := f) (j := j) (n := n) (by omega)
      omega
def bcs (n : Nat) (ow : Nat → Nat) : Nat → Option Nat
  | 0 => none
  | v + 1 => if isC n v then (match bcs n ow v with
    | none => some v
    | some u => if ow u < ow v then some v else some u) else bcs n ow v
theorem bcs_gap {n : Nat} {ow : Nat → Nat} {a : Nat} : ∀ r, (∀ u, a ≤ u → u < a + r → ¬ isC n u) → bcs n ow (a + r) = bcs n ow a
  | 0, _ => rfl
  | r + 1, h => by
    rw [show a + (r + 1) = (a + r) + 1 from rfl, bcs, if_neg (h (a + r) (by omega) (by omega)), bcs_gap r (fun u h1 h2 => h u h1 (by omega))]
theorem bcs_mem {n : Nat} {ow : Nat → Nat} : ∀ {v u : Nat}, bcs n ow v = some u → u < v
  | 0, u, h => by cases h
  | v + 1, u, h => by
    rw [bcs] at h
    by_cases q : isC n v
    · rw [if_pos q] at h
      cases e : bcs n ow v with
      | none =>
        rw [e] at h
        simp only at h
        cases h
        omega
      | some u' =>
        rw [e] at h
        simp only at h
        have ih := bcs_mem e
        by_cases z : ow u' < ow v
        · rw [if_pos z] at h
          cases h
          omega
        · rw [if_neg z] at h
          cases h
          omega
    · rw [if_neg q] at h
      have ih := bcs_mem h
      omega
def eM1 (ow : Nat → Nat) : Option Nat → Int32
  | none => cI (-1)
  | some u => nI (ow u)
def eB0 : Option Nat → Int32
  | none => 0
  | some u => nI u
theorem nle_m1 {x : Nat} (h : x < 2 ^ 31) : ¬ nI x ≤ cI (-1) := fun q => by
  have := Int32.le_iff_toInt_le.mp q
  rw [nI_toInt h, show (cI (-1)).toInt = -1 by decide] at this
  omega
theorem lt_m1 {x : Nat} (h : x < 2 ^ 31) : cI (-1) < nI x := Int32.not_le.mp (nle_m1 h)
section C9
variable {n c : Nat} {k w l : Nat → Nat} {d f wm hr b ch : Nat} {sd : Int32} {P : PT} {Q : QT} {S : XT} {M : MT} {p1 p2 p3 p4 p5 : Int32}
theorem HI.setl {m x : Nat} (h : HI n c k w l d f wm hr b ch) (hm : m < c) (hC : isC n x) : HI n c k w (un l m x) d f wm hr b ch := h.cells (fun i hi => by
    unfold un
    split
    · exact hC
    · exact (h.m hi).2.2) (fun i hi => if_neg (by omega))
theorem vb_un {m x t : Nat} (hm : m < c) : vb n c k w (un l m x) d f wm hr b t = sm (fun i => if i = m then 0 else (if lit n b (hrs hr t) (wk n d f wm b hr (k i) (l i) t) then w i else 0)) c + (if lit n b (hrs hr t) (wk n d f wm b hr (k m) x t) then w m else 0) := by
  show lw n b (hrs hr t) c w (cl n c k (un l m x) d f wm b hr t) = _
  unfold lw
  rw [← sm_at hm]
  refine sm_cong (fun i hi => ?_)
  rw [cl_in hi]
  unfold un
  by_cases q : i = m
  · subst q
    rw [if_pos rfl, if_pos rfl]
  · rw [if_neg q, if_neg q]
theorem c_bestCell (hR : Rel S M) : Out (fX4_bestCell p1 p2 S) (fX5_bestCell p1 p2 M) := by
  obtain ⟨n, c, k, w, l, d, f, wm, hr, b, ch, sd, P, Q, hx, rfl, h, hX⟩ := hR
  have hR := rel_s (Q := Q) hx h hX
  have hc := h.hc
  obtain ⟨hn6, hn7⟩ := h.hp.1
  unfold fX4_bestCell fX5_bestCell fX4_bestCell_j15 fX5_bestCell_j15
  rcases mote_cases (n := n) (k := k) (w := w) (l := l) (d := d) (f := f) (wm := wm) (hr := hr) (b := b) (ch := ch) (sd := sd) (P := P) (Q := Q) p1 hx hc with ⟨a, a'⟩ | ⟨m, hm, rfl, a, a'⟩
  · rw [a, a']
    simp only [bs, ↓reduceIte]
    exact out2 hR
  rw [a, a']
  simp only [bs, one0, ↓reduceIte]
  rcases time_cases p2 with ⟨a, a'⟩ | ⟨t, ht, rfl, a, a'⟩
  · rw [a, a']
    simp only [bs, ↓reduceIte]
    exact out2 hR
  rw [a, a']
  simp only [bs, one0, ↓reduceIte, u_gd (show m < 10 by omega) (show 10 < 2 ^ 31 by decide), u_ix (show m < 2 ^ 31 by omega), f_n, f_motes, f_kind, f_own, f_cell, f_doors, f_ways, f_seed]
  have hw9 := (h.m hm).2.1
  generalize how : (fun x => if lit n b (hrs hr t) (wk n d f wm b hr (k m) x t) then w m else 0) = ow
  have hox : ∀ x, ow x = if lit n b (hrs hr t) (wk n d f wm b hr (k m) x t) then w m else 0 := fun x => by rw [← how]
  have ho9 : ∀ x, ow x ≤ 9 := fun x => by
    rw [hox]
    split <;> omega
  generalize hO : sm (fun i => if i = m then 0 else (if lit n b (hrs hr t) (wk n d f wm b hr (k i) (l i) t) then w i else 0)) c = O
  have hO90 : O ≤ 90 := by
    rw [← hO]
    have : sm (fun i => if i = m then 0 else (if lit n b (hrs hr t) (wk n d f wm b hr (k i) (l i) t) then w i else 0)) c ≤ c * 9 := sm_le (fun i hi => by
      have := (h.m hi).2.1
      split
      · omega
      · split <;> omega)
    omega
  have hvb : ∀ x, vb n c k w (un l m x) d f wm hr b t = O + ow x := fun x => by rw [vb_un hm, hO, hox]
  have xi : ∀ (a : Nat), a < n → ∀ (kx : Int32 → Int32 → Int32 → XT → Option (Int32 × XT)) (r e fu : Nat) (T : HallT), e + r = n → r < fu → Zh T → ∃ T', Zh T' ∧ fX4_bestCell_L45 kx (nI m) (nI t) fu (eM1 ow (bcs n ow (10 * a + e))) (eB0 (bcs n ow (10 * a + e))) (nI a) (nI e) (xs_trial S T) = kx (eM1 ow (bcs n ow (10 * (a + 1)))) (eB0 (bcs n ow (10 * (a + 1)))) (nI (a + 1)) (xs_trial S T') := by
    intro a ha kx r
    induction r with
    | zero =>
      intro e fu T e1 hf hT
      obtain rfl : e = n := by omega
      cases fu with
      | zero => omega
      | succ fu =>
        refine ⟨T, hT, ?_⟩
        unfold fX4_bestCell_L45
        rw [xtn, hx, e_side, if_pos (nI_le (Nat.le_refl _) (by omega)), nI_1]
        have := bcs_gap (n := e) (ow := ow) (a := 10 * a + e) (10 - e) (fun u h1 h2 q => by
          have := q.2
          omega)
        rw [show 10 * a + e + (10 - e) = 10 * (a + 1) by omega] at this
        rw [this]
    | succ r ih =>
      intro e fu T e1 hf hT
      cases fu with
      | zero => omega
      | succ fu =>
        have hC : isC n (10 * a + e) := ⟨by omega, by omega⟩
        have hwC : isC n (wk n d f wm b hr (k m) (10 * a + e) t) := wC h.hp hC
        have h' := h.hour (t := t)
        unfold fX4_bestCell_L45 fX4_bestCell_j102 fX4_bestCell_j117
        rw [xtn, hx, e_side, if_neg (nI_ge (show e < n by omega) (by omega)), nI10, x_walked (S := xs_trial S T) hx h hT hm hC ht]
        simp only [bs]
        rw [xtt, xtg, xtn, hx, xlit h'.hp hwC, nI_1]
        simp only [bs, e_side, e_count, e_kind, e_weight, e_cell, e_doors, e_fan, e_warm, e_hour, e_beam, e_chance, e_seed, u_gd (show m < 10 by omega) (show 10 < 2 ^ 31 by decide), u_ix (show m < 2 ^ 31 by omega)]
        have es : bcs n ow (10 * a + (e + 1)) = (match bcs n ow (10 * a + e) with
          | none => some (10 * a + e)
          | some u => if ow u < ow (10 * a + e) then some (10 * a + e) else some u) := by
          rw [show 10 * a + (e + 1) = (10 * a + e) + 1 from rfl, bcs, if_pos hC]
        obtain ⟨T2, hT2, g⟩ := ih (e + 1) fu _ (by omega) (by omega) (h'.zh (sd := sd))
        refine ⟨T2, hT2, ?_⟩
        rw [es] at g
        have key : ∀ z : Int32, z = nI (ow (10 * a + e)) → (if z ≤ eM1 ow (bcs n ow (10 * a + e)) then fX4_bestCell_L45 kx (nI m) (nI t) fu (eM1 ow (bcs n ow (10 * a + e))) (eB0 (bcs n ow (10 * a + e))) (nI a) (nI (e + 1)) (xs_trial S (eH n c k w l d f wm (hrs hr t) b ch sd)) else fX4_bestCell_L45 kx (nI m) (nI t) fu z (nI (10 * a + e)) (nI a) (nI (e + 1)) (xs_trial S (eH n c k w l d f wm (hrs hr t) b ch sd))) = kx (eM1 ow (bcs n ow (10 * (a + 1)))) (eB0 (bcs n ow (10 * (a + 1)))) (nI (a + 1)) (xs_trial S T2) := by
          intro z hz
          subst hz
          have b1 := ho9 (10 * a + e)
          cases hso : bcs n ow (10 * a + e) with
          | none =>
            rw [hso] at g
            rw [if_neg (show ¬ nI (ow (10 * a + e)) ≤ eM1 ow none from nle_m1 (by omega))]
            exact g
          | some u =>
            rw [hso] at g
            have b2 := ho9 u
            by_cases q : ow u < ow (10 * a + e)
            · rw [if_neg (show ¬ nI (ow (10 * a + e)) ≤ eM1 ow (some u) from nI_ge q (by omega))]
              simp only [if_pos q] at g
              exact g
            · rw [if_pos (show nI (ow (10 * a + e)) ≤ eM1 ow (some u) from nI_le (by omega) (by omega))]
              simp only [if_neg q] at g
              exact g
        have hoe := hox (10 * a + e)
        by_cases q : lit n b (hrs hr t) (wk n d f wm b hr (k m) (10 * a + e) t)
        · rw [if_pos q] at hoe
          simp only [if_pos q, one0, ↓reduceIte]
          exact key (nI (w m)) (by rw [hoe])
        · rw [if_neg q] at hoe
          simp only [if_neg q, ↓reduceIte]
          exact key 0 (by rw [hoe]; rfl)
  have xo : ∀ (r a fu : Nat) (T : HallT), a + r = n → r < fu → Zh T → ∃ T', Zh T' ∧ fX4_bestCell_L30 (nI m) (nI t) fu (eM1 ow (bcs n ow (10 * a))) (eB0 (bcs n ow (10 * a))) (nI a) (xs_trial S T) = some (eB0 (bcs n ow (10 * n)), xs_trial S T') := by
    intro r
    induction r with
    | zero =>
      intro a fu T e hf hT
      obtain rfl : a = n := by omega
      cases fu with
      | zero => omega
      | succ fu =>
        refine ⟨T, hT, ?_⟩
        unfold fX4_bestCell_L30
        rw [xtn, hx, e_side, if_pos (nI_le (Nat.le_refl _) (by omega))]
    | succ r ih =>
      intro a fu T e hf hT
      cases fu with
      | zero => omega
      | succ fu =>
        unfold fX4_bestCell_L30
        rw [xtn, hx, e_side, if_neg (nI_ge (show a < n by omega) (by omega))]
        obtain ⟨T1, hT1, e1⟩ := xi a (by omega) (fun v3 v4 v5 S0 => fX4_bestCell_L30 (nI m) (nI t) fu v3 v4 v5 S0) n 0 FU T (by omega) (by show n < 1100; omega) hT
        rw [show fX4_bestCell_L45 _ (nI m) (nI t) FU (eM1 ow (bcs n ow (10 * a))) (eB0 (bcs n ow (10 * a))) (nI a) (0 : Int32) (xs_trial S T) = _ from e1]
        exact ih (a + 1) fu T1 (by omega) (by omega) hT1
  have mo : ∀ (r v fu : Nat) (l' : Nat → Nat) (Q : QT), v + r = 67 → r < fu → (∀ x, un l' m x = un l m x) → ∃ Q', fX5_bestCell_L38 (nI m) (nI t) fu (nI (l m)) (eB0 (bcs n ow v)) (eM1 (fun x => O + ow x) (bcs n ow v)) (nI v) (eM n c k w l' d f wm hr b ch sd P Q) = some (eB0 (bcs n ow 67), eM n c k w l d f wm hr b ch sd P Q') := by
    intro r
    induction r with
    | zero =>
      intro v fu l' Q e hf hl'
      obtain rfl : v = 67 := by omega
      cases fu with
      | zero => omega
      | succ fu =>
        refine ⟨Q, ?_⟩
        unfold fX5_bestCell_L38 fX5_bestCell_j96
        rw [if_pos (show (67 : Int32) ≤ nI 67 by decide)]
        simp only [bs, u_gd (show m < 10 by omega) (show 10 < 2 ^ 31 by decide), u_ix (show m < 2 ^ 31 by omega), f_n, f_motes, f_kind, f_own, f_cell, f_doors, f_ways, f_seed, u_un, fs_cell]
        rw [hl', un_self]
    | succ r ih =>
      intro v fu l' Q e hf hl'
      cases fu with
      | zero => omega
      | succ fu =>
        unfold fX5_bestCell_L38 fX5_bestCell_j90
        rw [if_neg (show ¬ (67 : Int32) ≤ nI v from nI_ge (a := v) (b := 67) (by omega) (by omega)), nI_1]
        have ih' := ih (v + 1) fu
        rw [bcs] at ih'
        rcases cell_cases (c := c) (k := k) (w := w) (l := l') (d := d) (f := f) (wm := wm) (hr := hr) (b := b) (ch := ch) (sd := sd) (P := P) (Q := Q) (nI v) hn6 hn7 with ⟨a, a'⟩ | ⟨x, hC, e1, a, a'⟩
        · have hnC : ¬ isC n v := fun z => by
            have h67 := isC_lt hn7 z
            unfold fX1_isCell at a
            rw [e_side, if_neg (nI_pos (by omega)), u_div10 (by omega), u_irm10 (by omega), if_neg (nI_ge z.1 (by omega)), if_neg (nI_ge z.2 (by omega))] at a
            revert a
            decide
          rw [a']
          simp only [bs, ↓reduceIte]
          rw [if_neg hnC] at ih'
          exact ih' l' Q (by omega) (by omega) hl'
        · have h67 := isC_lt hn7 hC
          have : v = x := (nI_eq (by omega) (by omega)).mp e1
          subst this
          have h' := h.setl hm hC
          rw [a']
          simp only [bs, one0, ↓reduceIte, u_gd (show m < 10 by omega) (show 10 < 2 ^ 31 by decide), u_ix (show m < 2 ^ 31 by omega), f_n, f_motes, f_kind, f_own, f_cell, f_doors, f_ways, f_seed, u_un, fs_cell]
          rw [hl']
          obtain ⟨Q1, e2⟩ := m_vb (sd := sd) (P := P) (Q := Q) h' (show t ≤ 1000 by omega)
          rw [e2, hvb]
          simp only [bs]
          rw [if_pos hC] at ih'
          obtain ⟨Q2, g⟩ := ih' (un l m v) Q1 (by omega) (by omega) (fun x => un_un)
          refine ⟨Q2, ?_⟩
          have b1 := ho9 v
          cases hso : bcs n ow v with
          | none =>
            rw [hso] at g
            rw [if_pos (show eM1 (fun x => O + ow x) none < nI (O + ow v) from lt_m1 (by omega))]
            exact g
          | some u =>
            rw [hso] at g
            have b2 := ho9 u
            by_cases q : ow u < ow v
            · rw [if_pos (show eM1 (fun x => O + ow x) (some u) < nI (O + ow v) from nI_lt (a := O + ow u) (b := O + ow v) (by omega) (by omega))]
              simp only [if_pos q] at g
              exact g
            · rw [if_neg (show ¬ eM1 (fun x => O + ow x) (some u) < nI (O + ow v) from nI_nlt (a := O + ow u) (b := O + ow v) (by omega) (by omega))]
              simp only [if_neg q] at g
              exact g
  obtain ⟨T, hT, x1⟩ := xo n 0 FU (x_trial S) (by omega) (by show n < 1100; omega) hX.1.1
  obtain ⟨Q', m1⟩ := mo 67 0 FU l Q (by omega) (by show 67 < 1100; omega) (fun _ => rfl)
  rw [show fX4_bestCell_L30 (nI m) (nI t) FU (cI (-1)) (0 : Int32) (0 : Int32) S = _ from x1, show fX5_bestCell_L38 (nI m) (nI t) FU (nI (l m)) (0 : Int32) (cI (-1)) (0 : Int32) (eM n c k w l d f wm hr b ch sd P Q) = _ from m1]
  have e67 : bcs n ow (10 * n) = bcs n ow 67 := by
    by_cases q : n = 6
    · subst q
      exact (bcs_gap (n := 6) (ow := ow) (a := 60) 7 (fun u h1 h2 z => by have := z.1; omega)).symm
    · have : n = 7 := by omega
      subst this
      exact bcs_gap (n := 7) (ow := ow) (a := 67) 3 (fun u h1 h2 z => by have := z.2; omega)
  rw [e67]
  exact rel_e hx h hX hT rfl
/-! thick -/
theorem cin_le {x : Nat} : cin c l x ≤ c := by
  have : cin c l x ≤ c * 1 := sm_le (fun i hi => by split <;> omega)
  omega
theorem cin_in {j : Nat} (hj : j < c) : 0 < cin c l (l j) := by
  have := sm_ge (f := fun i => if l i = l j then 1 else 0) (j := j) (n := c) hj
  simp only [↓reduceIte] at this
  exact this
theorem cin_ex {x : Nat} (h0 : 0 < cin c l x) : ∃ j, j < c ∧ l j = x := by
  obtain ⟨i, hi, q⟩ := sm_pos h0
  refine ⟨i, hi, ?_⟩
  by_cases e : l i = x
  · exact e
  · rw [if_neg e] at q
    exact absurd q (Nat.lt_irrefl 0)
theorem c_thick (hR : Rel S M) : Out (fX4_thick p1 S) (fX5_thick p1 M) := by
  obtain ⟨n, c, k, w, l, d, f, wm, hr, b, ch, sd, P, Q, hx, rfl, h, hX⟩ := hR
  have hR := rel_s (Q := Q) hx h hX
  have hc := h.hc
  obtain ⟨hn6, hn7⟩ := h.hp.1
  unfold fX4_thick fX5_thick
  rcases time_cases p1 with ⟨a, a'⟩ | ⟨t, ht, rfl, a, a'⟩
  · rw [a, a']
    simp only [bs, ↓reduceIte]
    exact out2 hR
  obtain ⟨Q', eq, hW⟩ := m_goesOn (sd := sd) (P := P) (Q := Q) h (show t ≤ 1000 by omega)
  rw [a, a', x_la hx h hX.1.1 ht, eq]
  simp only [bs, one0, ↓reduceIte]
  have hA := h.after (t := t)
  generalize hL : cl n c k l d f wm b hr t = L at hA
  have hcC : ∀ i, i < c → isC n (L i) := fun i hi => (hA.m hi).2.2
  have xo : ∀ (r j fu be mo : Nat), j + r = c → r < fu → be < 67 → mo ≤ 10 → (j = 0 → be = 0 ∧ mo = 0) → (0 < j → (∃ i, i < j ∧ be = L i) ∧ mo = cin c L be) → (∀ i, i < j → cin c L (L i) ≤ mo ∧ (cin c L (L i) = mo → be ≤ L i)) → ∃ be' mo', fX4_thick_L26 (nI t) fu (nI be) (nI mo) (nI j) (xs_trial S (eH n c k w L d f wm (hrs hr t) b ch sd)) = some (nI be', xs_trial S (eH n c k w L d f wm (hrs hr t) b ch sd)) ∧ be' < 67 ∧ (c = 0 → be' = 0) ∧ (0 < c → (∃ i, i < c ∧ be' = L i) ∧ mo' = cin c L be') ∧ (∀ i, i < c → cin c L (L i) ≤ mo' ∧ (cin c L (L i) = mo' → be' ≤ L i)) := by
    intro r
    induction r with
    | zero =>
      intro j fu be mo e hf h67 h10 i0 i1 i2
      obtain rfl : j = c := by omega
      cases fu with
      | zero => omega
      | succ fu =>
        refine ⟨be, mo, ?_, h67, fun z => (i0 z).1, i1, i2⟩
        unfold fX4_thick_L26
        simp only [xtg, e_side, e_count, e_kind, e_weight, e_cell, e_doors, e_fan, e_warm, e_hour, e_beam, e_chance, e_seed]
        rw [if_pos (nI_le (Nat.le_refl _) (by omega))]
    | succ r ih =>
      intro j fu be mo e hf h67 h10 i0 i1 i2
      cases fu with
      | zero => omega
      | succ fu =>
        have hj : j < c := by omega
        have hLj := isC_lt hn7 (hcC j hj)
        have hcl := cin_le (c := c) (l := L) (x := L j)
        unfold fX4_thick_L26 fX4_thick_j79 fX4_thick_j85
        simp only [xtg, e_side, e_count, e_kind, e_weight, e_cell, e_doors, e_fan, e_warm, e_hour, e_beam, e_chance, e_seed, u_gd (show j < 10 by omega) (show 10 < 2 ^ 31 by decide), u_ix (show j < 2 ^ 31 by omega)]
        rw [if_neg (nI_ge hj (by omega)), x_cin hA (by omega), nI_1]
        simp only [bs]
        rw [u_if (nI_ltI (a := mo) (b := cin c L (L j)) (by omega) (by omega)), u_if (nI_eq (a := cin c L (L j)) (b := mo) (by omega) (by omega)), u_if (nI_leI (a := be) (b := L j) (by omega) (by omega))]
        by_cases q1 : mo < cin c L (L j)
        · rw [if_pos q1]
          refine ih (j + 1) fu (L j) (cin c L (L j)) (by omega) (by omega) hLj (by omega) (by omega) (fun _ => ⟨⟨j, by omega, rfl⟩, rfl⟩) (fun i hi => ?_)
          by_cases e2 : i = j
          · subst e2
            exact ⟨Nat.le_refl _, fun _ => Nat.le_refl _⟩
          · have := (i2 i (by omega)).1
            exact ⟨by omega, by omega⟩
        · rw [if_neg q1]
          have hj0 : 0 < j := by
            rcases Nat.eq_zero_or_pos j with z | z
            · have := (i0 z).2
              have := cin_in (c := c) (l := L) hj
              omega
            · exact z
          by_cases q2 : cin c L (L j) = mo
          · rw [if_pos q2]
            by_cases q3 : be ≤ L j
            · rw [if_pos q3]
              refine ih (j + 1) fu be mo (by omega) (by omega) h67 h10 (by omega) (fun _ => ?_) (fun i hi => ?_)
              · obtain ⟨⟨i, hi, e3⟩, e4⟩ := i1 hj0
                exact ⟨⟨i, by omega, e3⟩, e4⟩
              · by_cases e2 : i = j
                · subst e2
                  exact ⟨by omega, fun _ => q3⟩
                · exact i2 i (by omega)
            · rw [if_neg q3]
              refine ih (j + 1) fu (L j) (cin c L (L j)) (by omega) (by omega) hLj (by omega) (by omega) (fun _ => ⟨⟨j, by omega, rfl⟩, rfl⟩) (fun i hi => ?_)
              by_cases e2 : i = j
              · subst e2
                exact ⟨Nat.le_refl _, fun _ => Nat.le_refl _⟩
              · have := i2 i (by omega)
                exact ⟨by omega, fun z => by
                  have := this.2 (by omega)
                  omega⟩
          · rw [if_neg q2]
            refine ih (j + 1) fu be mo (by omega) (by omega) h67 h10 (by omega) (fun _ => ?_) (fun i hi => ?_)
            · obtain ⟨⟨i, hi, e3⟩, e4⟩ := i1 hj0
              exact ⟨⟨i, by omega, e3⟩, e4⟩
            · by_cases e2 : i = j
              · subst e2
                exact ⟨by omega, fun z => absurd z q2⟩
              · exact i2 i (by omega)
  have hends : fX5_ends (eM n c k w L d f wm (hrs hr t) b ch sd P Q') = some (eM n c k w l d f wm hr b ch sd P Q') := by
    rw [← hL]
    exact m_end h hW
  have mo : ∀ (i fu g : Nat), i ≤ 67 → i < fu → isC n g → (∀ u, i ≤ u → isC n u → cin c L u ≤ cin c L g) → (∀ u, i ≤ u → u < g → isC n u → cin c L u < cin c L g) → ∃ g', fX5_thick_L24 (nI t) fu (nI g) (nI i - 1) (eM n c k w L d f wm (hrs hr t) b ch sd P Q') = some (nI g', eM n c k w l d f wm hr b ch sd P Q') ∧ isC n g' ∧ (∀ u, isC n u → cin c L u ≤ cin c L g') ∧ (∀ u, u < g' → isC n u → cin c L u < cin c L g') := by
    intro i
    induction i with
    | zero =>
      intro fu g hi hf hg h1 h2
      cases fu with
      | zero => omega
      | succ fu =>
        refine ⟨g, ?_, hg, fun u => h1 u (by omega), fun u hu => h2 u (by omega) hu⟩
        unfold fX5_thick_L24
        rw [if_pos (by decide), hends]
        rfl
    | succ i ih =>
      intro fu g hi hf hg h1 h2
      cases fu with
      | zero => omega
      | succ fu =>
        have hg67 := isC_lt hn7 hg
        unfold fX5_thick_L24 fX5_thick_j51
        rw [nI_pred, if_neg (nI_pos (by omega)), m1v]
        rcases cell_cases (c := c) (k := k) (w := w) (l := L) (d := d) (f := f) (wm := wm) (hr := hrs hr t) (b := b) (ch := ch) (sd := sd) (P := P) (Q := Q') (nI i) hn6 hn7 with ⟨a, a'⟩ | ⟨x, hC, e1, a, a'⟩
        · have hnC : ¬ isC n i := fun z => by
            have h67 := isC_lt hn7 z
            unfold fX1_isCell at a
            rw [e_side, if_neg (nI_pos (by omega)), u_div10 (by omega), u_irm10 (by omega), if_neg (nI_ge z.1 (by omega)), if_neg (nI_ge z.2 (by omega))] at a
            revert a
            decide
          rw [a']
          simp only [bs, ↓reduceIte]
          refine ih fu g (by omega) (by omega) hg (fun u hu z => ?_) (fun u hu z z2 => ?_)
          · by_cases e : u = i
            · subst e
              exact absurd z hnC
            · exact h1 u (by omega) z
          · by_cases e : u = i
            · subst e
              exact absurd z2 hnC
            · exact h2 u (by omega) z z2
        · have h67 := isC_lt hn7 hC
          have : i = x := (nI_eq (by omega) (by omega)).mp e1
          subst this
          have b1 := cin_le (c := c) (l := L) (x := i)
          have b2 := cin_le (c := c) (l := L) (x := g)
          rw [a', m_cr hA (by omega), m_cr hA (by omega)]
          simp only [bs, one0, ↓reduceIte]
          rw [u_if (nI_ltI (a := cin c L i) (b := cin c L g) (by omega) (by omega))]
          by_cases q : cin c L i < cin c L g
          · rw [if_pos q]
            refine ih fu g (by omega) (by omega) hg (fun u hu z => ?_) (fun u hu z z2 => ?_)
            · by_cases e : u = i
              · subst e
                omega
              · exact h1 u (by omega) z
            · by_cases e : u = i
              · subst e
                exact q
              · exact h2 u (by omega) z z2
          · rw [if_neg q]
            refine ih fu i (by omega) (by omega) hC (fun u hu z => ?_) (fun u hu z z2 => by omega)
            by_cases e : u = i
            · subst e
              exact Nat.le_refl _
            · have := h1 u (by omega) z
              omega
  obtain ⟨be, mo', x1, x67, x0, xp, xm⟩ := xo c 0 FU 0 0 (by omega) (by show c < 1100; omega) (by omega) (by omega) (fun _ => ⟨rfl, rfl⟩) (by omega) (fun i hi => by omega)
  obtain ⟨g', m1, mg, m2, m3⟩ := mo 67 FU 0 (by omega) (by show 67 < 1100; omega) ⟨by omega, by omega⟩ (fun u hu z => by
    have := isC_lt hn7 z
    omega) (fun u hu z => by omega)
  have hbC : isC n be := by
    rcases Nat.eq_zero_or_pos c with z | z
    · rw [x0 z]
      exact ⟨by omega, by omega⟩
    · obtain ⟨⟨i, hi, e⟩, -⟩ := xp z
      rw [e]
      exact hcC i hi
  have hbe : be = g' := by
    rcases Nat.eq_zero_or_pos c with z | z
    · have e0 := x0 z
      rcases Nat.eq_zero_or_pos g' with y | y
      · omega
      · have := m3 0 y ⟨by omega, by omega⟩
        have b2 := cin_le (c := c) (l := L) (x := g')
        omega
    · obtain ⟨⟨i, hi, e⟩, e2⟩ := xp z
      have hmx : ∀ u, cin c L u ≤ cin c L be := by
        intro u
        rcases Nat.eq_zero_or_pos (cin c L u) with y | y
        · omega
        · obtain ⟨j, hj, ej⟩ := cin_ex y
          have := (xm j hj).1
          rw [ej] at this
          omega
      have heq : cin c L g' = cin c L be := by
        have a1 := hmx g'
        have a2 := m2 be hbC
        omega
      rcases Nat.lt_or_ge be g' with q | q
      · have := m3 be q hbC
        omega
      · have hpos : 0 < cin c L be := by
          rw [e]
          exact cin_in hi
        obtain ⟨j, hj, ej⟩ := cin_ex (c := c) (l := L) (x := g') (by omega)
        have := (xm j hj).2 (by rw [ej]; omega)
        omega
  have m1' : fX5_thick_L24 (nI t) FU (0 : Int32) (66 : Int32) (eM n c k w L d f wm (hrs hr t) b ch sd P Q') = _ := m1
  rw [show fX4_thick_L26 (nI t) FU (0 : Int32) (0 : Int32) (0 : Int32) (xs_trial S (eH n c k w L d f wm (hrs hr t) b ch sd)) = _ from x1, m1', hbe]
  exact rel_e hx h hX hA.zh rfl
/-! copy -/
theorem c_copy (hR : Rel S M) : Out (fX4_copy p1 p2 p3 p4 p5 S) (fX5_copy p1 p2 p3 p4 p5 M) := by
  obtain ⟨n, c, k, w, l, d, f, wm, hr, b, ch, sd, P, Q, hx, rfl, h, hX⟩ := hR
  have hR := rel_s (Q := Q) hx h hX
  have hc := h.hc
  unfold fX4_copy fX5_copy fX4_copy_j14 fX5_copy_j14
  rcases shelf_cases p1 with ⟨a, a'⟩ | ⟨s, hs, rfl, a, a'⟩
  · rw [a, a']
    simp only [bs, ↓reduceIte]
    exact out2 hR
  rw [a, a']
  simp only [bs, one0, ↓reduceIte]
  rcases shelf_cases p2 with ⟨a, a'⟩ | ⟨s2, hs2, rfl, a, a'⟩
  · rw [a, a']
    simp only [bs, ↓reduceIte]
    exact out2 hR
  rw [a, a']
  unfold fX4_copy_j60 fX4_copy_j59 fX4_copy_j60 fX4_copy_j98 fX5_copy_j74 fX5_copy_j81 fX5_copy_j99
  simp only [bs, one0, ↓reduceIte, u_gd hs (show 8 < 2 ^ 31 by decide), u_ix (show s < 2 ^ 31 by omega), u_gd hs2 (show 8 < 2 ^ 31 by decide), u_ix (show s2 < 2 ^ 31 by omega), f_holding]
  have mh : ∀ m, m < c → (10 : Int32) ≤ nI (10 + m) := fun m hm => nI_le (a := 10) (b := 10 + m) (by omega) (by omega)
  have sh : ∀ st, st ≤ 4 → ¬ (10 : Int32) ≤ nI st := fun st hst => nI_ge (a := st) (b := 10) (by omega) (by omega)
  have em : ¬ (10 : Int32) ≤ cI (-1) := by decide
  have el : cI (-1) < 0 := by decide
  have en : ¬ (0 : Int32) ≤ cI (-1) := by decide
  rcases row_cases (n := n) (k := k) (w := w) (l := l) (d := d) (f := f) (wm := wm) (hr := hr) (b := b) (ch := ch) (sd := sd) (Q := Q) hs hX hc with ⟨q1, q2, q3, q4⟩ | ⟨q1, m, hm, q2, q3, q4, q5⟩ | ⟨q1, st, hst, sz, hsz, q2, q3, q4, q5, q6, q7⟩
  · rcases row_cases (n := n) (k := k) (w := w) (l := l) (d := d) (f := f) (wm := wm) (hr := hr) (b := b) (ch := ch) (sd := sd) (Q := Q) hs2 hX hc with ⟨t1, t2, t3, t4⟩ | ⟨t1, m, hm, t2, t3, t4, t5⟩ | ⟨t1, tt, htt, tz, htz, t2, t3, t4, t5, t6, t7⟩
    · unfold fX4_copy_j105
      simp only [q1, q2, q3, t1, t2, i01, i02, em, el, ↓reduceIte, bs]
      exact out4 hR
    · simp only [q1, q2, t1, t3, i01, i02, em, mh m hm, ↓reduceIte, bs]
      exact out3 hR
    · unfold fX4_copy_j105
      simp only [q1, q2, q3, t1, t3, i01, i02, i12, em, el, sh tt htt, ↓reduceIte, bs]
      exact out4 hR
  · rcases row_cases (n := n) (k := k) (w := w) (l := l) (d := d) (f := f) (wm := wm) (hr := hr) (b := b) (ch := ch) (sd := sd) (Q := Q) hs2 hX hc with ⟨t1, t2, t3, t4⟩ | ⟨t1, m2, hm2, t2, t3, t4, t5⟩ | ⟨t1, tt, htt, tz, htz, t2, t3, t4, t5, t6, t7⟩
    all_goals
      simp only [q1, q3, i21, mh m hm, ↓reduceIte]
      exact out3 hR
  · rcases row_cases (n := n) (k := k) (w := w) (l := l) (d := d) (f := f) (wm := wm) (hr := hr) (b := b) (ch := ch) (sd := sd) (Q := Q) hs2 hX hc with ⟨t1, t2, t3, t4⟩ | ⟨t1, m2, hm2, t2, t3, t4, t5⟩ | ⟨t1, tt, htt, tz, htz, t2, t3, t4, t5, t6, t7⟩
    · unfold fX4_copy_j105
      have zst : ¬ nI st < 0 := nI_pos (by omega)
      simp only [q1, q3, q7, t1, t2, t3, i01, i02, i12, em, en, zst, sh st hst, one0, ↓reduceIte, bs]
      exact out4 hR
    · simp only [q1, q3, t1, t3, i21, i12, sh st hst, mh m2 hm2, ↓reduceIte, bs]
      exact out3 hR
    · simp only [q1, q2, q3, q7, t1, t2, t3, t7, i12, sh st hst, sh tt htt, one0, ↓reduceIte, bs]
      by_cases hsort : nI st = nI tt
      · have zst : ¬ nI st < 0 := nI_pos (by omega)
        have ztt : (0 : Int32) ≤ nI tt := nI_pos' (by omega)
        unfold fX4_copy_j105 fX4_copy_j140 fX5_copy_j155 fX5_copy_j222
        simp only [if_pos hsort, if_neg zst, if_pos ztt, one0, ↓reduceIte, f_rowLength, q5, t5, u_ix (show s < 2 ^ 31 by omega), u_ix (show s2 < 2 ^ 31 by omega)]
        unfold fX2_hasPlaces
        rw [q4, t4]
        simp only [lg_cmp_gt, lg_cmp_le]
        -- the places
        by_cases h5 : p5 < 0
        · by_cases h3 : p3 < 0
          · simp only [if_pos h3, if_pos h5, bs, ↓reduceIte]
            exact out2 hR
          · simp only [if_neg h3, if_pos h5, bs, ↓reduceIte]
            exact out2 hR
        obtain ⟨N, hN, rfl⟩ := nI_of h5
        by_cases h3 : p3 < 0
        · simp only [if_pos h3, if_neg h5, bs, ↓reduceIte]
          exact out2 hR
        obtain ⟨I, hI, rfl⟩ := nI_of h3
        by_cases h4 : p4 < 0
        · simp only [if_pos h4, if_neg h3, if_neg h5, bs, ↓reduceIte]
          by_cases g1 : nI sz < nI N
          · simp only [if_pos g1, bs, ↓reduceIte]
            exact out2 hR
          · simp only [if_neg g1]
            by_cases g2 : nI sz - nI N < nI I
            · simp only [if_pos g2, bs, ↓reduceIte]
              exact out2 hR
            · simp only [if_neg g2, bs, one0, ↓reduceIte]
              exact out2 hR
        obtain ⟨J, hJ, rfl⟩ := nI_of h4
        simp only [if_neg h3, if_neg h4, if_neg h5]
        rw [nI_l hI, nI_l hJ, nI_l hN, nI_l (show sz < 2 ^ 31 by omega), nI_l (show tz < 2 ^ 31 by omega), lN_add, lN_add]
        rw [u_if (pk_lLT (a := sz) (b := I + N) (by omega) (by omega)), u_if (pk_lLE (a := J + N) (b := tz) (by omega) (by omega)), u_if (nI_ltI (a := sz) (b := N) (by omega) (by omega)), u_if (nI_ltI (a := tz) (b := N) (by omega) (by omega))]
        by_cases g1 : sz < N
        · simp only [if_pos g1, if_pos (show sz < I + N by omega), bs, ↓reduceIte]
          exact out2 hR
        simp only [if_neg g1]
        rw [show nI sz - nI N = nI (sz - N) from pk_sub (by omega), u_if (nI_ltI (a := sz - N) (b := I) (by omega) (by omega))]
        by_cases g2 : sz - N < I
        · simp only [if_pos g2, if_pos (show sz < I + N by omega), bs, ↓reduceIte]
          exact out2 hR
        simp only [if_neg g2, if_neg (show ¬ sz < I + N by omega), bs, one0, ↓reduceIte]
        by_cases g3 : tz < N
        · simp only [if_pos g3, if_neg (show ¬ J + N ≤ tz by omega), bs, ↓reduceIte]
          exact out2 hR
        simp only [if_neg g3]
        rw [show nI tz - nI N = nI (tz - N) from pk_sub (by omega), u_if (nI_ltI (a := tz - N) (b := J) (by omega) (by omega))]
        by_cases g4 : tz - N < J
        · simp only [if_pos g4, if_neg (show ¬ J + N ≤ tz by omega), bs, ↓reduceIte]
          exact out2 hR
        simp only [if_neg g4, if_pos (show J + N ≤ tz by omega), bs, one0, ↓reduceIte]
        have hk : cpk (nI I) (nI J) (nI N) 40 40 = true := by
          unfold cpk
          rw [decide_eq_false (nI_pos hI), decide_eq_false (nI_pos hJ), decide_eq_false (nI_pos hN), u_ix hI, u_ix hJ, u_ix hN, decide_eq_true (show I + N ≤ 40 by omega), decide_eq_true (show J + N ≤ 40 by omega)]
          rfl
        rw [hk]
        simp only [gt]
        unfold cpa
        rw [u_ix hI, u_ix hJ, u_ix hN]
        -- the reference's loops
        have fin : ∀ g : Nat → Int64, (∀ x, g x = if 40 * s2 + J ≤ x ∧ x < 40 * s2 + J + N then p_rowOf P (40 * s + I + (x - (40 * s2 + J))) else p_rowOf P x) → Out (some (nI N, xs_sh S (va_up (x_sh S) s2 (shs_elements (x_sh S s2) (va_cpy (sh_elements (x_sh S s)) (sh_elements (x_sh S s2)) I J N))))) (some (nI N, eM n c k w l d f wm hr b ch sd (ps_rowOf P g) Q)) := by
          intro g hg
          refine ⟨_, _, _, rfl, rfl, rel_s (S := xs_sh S _) hx h (RX.sh hX rfl rfl rfl rfl rfl (fun t ht => ?_))⟩
          by_cases e : t = s2
          · subst e
            rw [va_up_self]
            refine Or.inr (Or.inl ⟨t1, ⟨tt, htt, t2, t3⟩, ⟨tz, htz, t4, t5⟩, fun j hj => ?_⟩)
            show va_cpy (sh_elements (x_sh S s)) (sh_elements (x_sh S t)) I J N j = g (40 * t + j)
            rw [hg]
            by_cases q : J ≤ j ∧ j < J + N
            · rw [pk_cpy_in q.1 q.2, if_pos ⟨by omega, by omega⟩, q6 _ (by omega)]
              congr 1
              omega
            · rw [pk_cpy_out (by omega), if_neg (by omega), t6 j hj]
          · rw [va_up_ne _ _ e]
            rcases hX.2.1 t ht with r | ⟨r1, r2, r3, r4⟩ | r
            · exact Or.inl r
            · refine Or.inr (Or.inl ⟨r1, r2, r3, fun j hj => ?_⟩)
              show sh_elements (x_sh S t) j = g (40 * t + j)
              rw [hg, if_neg (by omega), r4 j hj]
            · exact Or.inr (Or.inr r)
        have asc : (¬ s = s2 ∨ J ≤ I) → ∀ (r kk fu : Nat) (P' : PT), kk + r = N → r < fu → (∃ g, P' = ps_rowOf P g ∧ ∀ x, g x = if 40 * s2 + J ≤ x ∧ x < 40 * s2 + J + kk then p_rowOf P (40 * s + I + (x - (40 * s2 + J))) else p_rowOf P x) → ∃ g, fX5_copy_L225 (nI s) (nI s2) (nI I) (nI J) (nI N) fu (nI kk) (eM n c k w l d f wm hr b ch sd P' Q) = some (nI N, eM n c k w l d f wm hr b ch sd (ps_rowOf P g) Q) ∧ ∀ x, g x = if 40 * s2 + J ≤ x ∧ x < 40 * s2 + J + N then p_rowOf P (40 * s + I + (x - (40 * s2 + J))) else p_rowOf P x := by
          intro hd r
          induction r with
          | zero =>
            intro kk fu P' e hf hg
            obtain rfl : kk = N := by omega
            obtain ⟨g, rfl, hg⟩ := hg
            cases fu with
            | zero => omega
            | succ fu =>
              refine ⟨g, ?_, hg⟩
              unfold fX5_copy_L225
              rw [if_pos (nI_le (Nat.le_refl _) (by omega))]
          | succ r ih =>
            intro kk fu P' e hf hg
            obtain ⟨g, rfl, hg⟩ := hg
            cases fu with
            | zero => omega
            | succ fu =>
              unfold fX5_copy_L225
              rw [if_neg (nI_ge (show kk < N by omega) (by omega)), show (40 : Int32) * nI s = nI (40 * s) from pk_mul 40 s, show (40 : Int32) * nI s2 = nI (40 * s2) from pk_mul 40 s2, nI_add, nI_add, nI_add, nI_add, nI_1]
              simp only [bs, u_gd (show 40 * s + I + kk < 320 by omega) (show 320 < 2 ^ 31 by decide), u_gd (show 40 * s2 + J + kk < 320 by omega) (show 320 < 2 ^ 31 by decide), u_ix (show 40 * s + I + kk < 2 ^ 31 by omega), u_ix (show 40 * s2 + J + kk < 2 ^ 31 by omega), f_rowOf, fs_rowOf]
              refine ih (kk + 1) fu _ (by omega) (by omega) ⟨_, rfl, fun x => ?_⟩
              have e1 : p_rowOf (ps_rowOf P g) = g := rfl
              rw [e1]
              by_cases q : x = 40 * s2 + J + kk
              · subst q
                rw [pk_uLs, hg, if_neg (by omega), if_pos ⟨by omega, by omega⟩]
                congr 1
                omega
              · rw [pk_uLn q, hg]
                by_cases q2 : 40 * s2 + J ≤ x ∧ x < 40 * s2 + J + kk
                · rw [if_pos q2, if_pos (by omega)]
                · rw [if_neg q2, if_neg (by omega)]
        have desc : s = s2 → I < J → ∀ (kk fu : Nat) (P' : PT), kk ≤ N → kk < fu → (∃ g, P' = ps_rowOf P g ∧ ∀ x, g x = if 40 * s2 + J + kk ≤ x ∧ x < 40 * s2 + J + N then p_rowOf P (40 * s + I + (x - (40 * s2 + J))) else p_rowOf P x) → ∃ g, fX5_copy_L179 (nI s) (nI s2) (nI I) (nI J) (nI N) fu (nI kk - 1) (eM n c k w l d f wm hr b ch sd P' Q) = some (nI N, eM n c k w l d f wm hr b ch sd (ps_rowOf P g) Q) ∧ ∀ x, g x = if 40 * s2 + J ≤ x ∧ x < 40 * s2 + J + N then p_rowOf P (40 * s + I + (x - (40 * s2 + J))) else p_rowOf P x := by
          intro hss hij kk
          induction kk with
          | zero =>
            intro fu P' hk' hf hg
            obtain ⟨g, rfl, hg⟩ := hg
            cases fu with
            | zero => omega
            | succ fu =>
              refine ⟨g, ?_, hg⟩
              unfold fX5_copy_L179
              rw [if_pos (by decide)]
          | succ kk ih =>
            intro fu P' hk' hf hg
            obtain ⟨g, rfl, hg⟩ := hg
            cases fu with
            | zero => omega
            | succ fu =>
              unfold fX5_copy_L179
              rw [nI_pred, if_neg (nI_pos (by omega)), show (40 : Int32) * nI s = nI (40 * s) from pk_mul 40 s, show (40 : Int32) * nI s2 = nI (40 * s2) from pk_mul 40 s2, nI_add, nI_add, nI_add, nI_add, m1v]
              simp only [bs, u_gd (show 40 * s + I + kk < 320 by omega) (show 320 < 2 ^ 31 by decide), u_gd (show 40 * s2 + J + kk < 320 by omega) (show 320 < 2 ^ 31 by decide), u_ix (show 40 * s + I + kk < 2 ^ 31 by omega), u_ix (show 40 * s2 + J + kk < 2 ^ 31 by omega), f_rowOf, fs_rowOf]
              refine ih fu _ (by omega) (by omega) ⟨_, rfl, fun x => ?_⟩
              have e1 : p_rowOf (ps_rowOf P g) = g := rfl
              rw [e1]
              by_cases q : x = 40 * s2 + J + kk
              · subst q
                rw [pk_uLs, hg, if_neg (by omega), if_pos ⟨by omega, by omega⟩]
                congr 1
                omega
              · rw [pk_uLn q, hg]
                by_cases q2 : 40 * s2 + J + (kk + 1) ≤ x ∧ x < 40 * s2 + J + N
                · rw [if_pos q2, if_pos (by omega)]
                · rw [if_neg q2, if_neg (by omega)]
        have hPP : P = ps_rowOf P (p_rowOf P) := rfl
        by_cases hss : s = s2
        · rw [if_pos (by rw [hss])]
          by_cases hij : J ≤ I
          · rw [if_pos (nI_le hij hI)]
            obtain ⟨g, e1, e2⟩ := asc (Or.inr hij) N 0 FU P (by omega) (by show N < 1100; omega) ⟨p_rowOf P, hPP, fun x => by rw [if_neg (by omega)]⟩
            rw [show fX5_copy_L225 (nI s) (nI s2) (nI I) (nI J) (nI N) FU (0 : Int32) (eM n c k w l d f wm hr b ch sd P Q) = _ from e1]
            exact fin g e2
          · rw [if_neg (nI_ge (by omega) hJ)]
            obtain ⟨g, e1, e2⟩ := desc hss (by omega) N FU P (by omega) (by show N < 1100; omega) ⟨p_rowOf P, hPP, fun x => by rw [if_neg (by omega)]⟩
            rw [e1]
            exact fin g e2
        · rw [if_neg (fun z => hss ((nI_eq (by omega) (by omega)).mp z))]
          obtain ⟨g, e1, e2⟩ := asc (Or.inl hss) N 0 FU P (by omega) (by show N < 1100; omega) ⟨p_rowOf P, hPP, fun x => by rw [if_neg (by omega)]⟩
          rw [show fX5_copy_L225 (nI s) (nI s2) (nI I) (nI J) (nI N) FU (0 : Int32) (eM n c k w l d f wm hr b ch sd P Q) = _ from e1]
          exact fin g e2
      · simp only [if_neg hsort]
        exact out3 hR
end C9
