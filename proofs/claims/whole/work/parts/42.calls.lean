/-! ===== pure layer: which, setting, bestCell ===== -/
theorem ff_none {p : Nat → Bool} : ∀ (m i : Nat), (∀ u, i ≤ u → u < i + m → p u = false) → ff p m i = cI (-1)
  | 0, _, _ => rfl
  | m + 1, i, h => by
    rw [ff, if_neg (by rw [h i (by omega) (by omega)]; decide)]
    exact ff_none m (i + 1) (fun u h1 h2 => h u (by omega) (by omega))
theorem ff_tail {p : Nat → Bool} {m : Nat} : ∀ (r i : Nat), (∀ u, i + r ≤ u → u < i + r + m → p u = false) → ff p (r + m) i = ff p r i
  | 0, i, h => by
    rw [Nat.zero_add]
    exact ff_none m i (fun u h1 h2 => h u (by omega) (by omega))
  | r + 1, i, h => by
    rw [show r + 1 + m = (r + m) + 1 by omega, ff, ff, ff_tail r (i + 1) (fun u h1 h2 => h u (by omega) (by omega))]
theorem ff_gap {p : Nat → Bool} {m : Nat} : ∀ (r i : Nat), (∀ u, i ≤ u → u < i + r → p u = false) → ff p (m + r) i = ff p m (i + r)
  | 0, i, h => rfl
  | r + 1, i, h => by
    rw [show m + (r + 1) = (m + r) + 1 by omega, ff, if_neg (by rw [h i (by omega) (by omega)]; decide), ff_gap r (i + 1) (fun u h1 h2 => h u (by omega) (by omega)), show i + 1 + r = i + (r + 1) by omega]
def ts (l : Nat → Nat) (g : Nat → Int64) : Nat → Bool
  | 0 => true
  | j + 1 => ts l g j && decide ((nI (l j)).toInt64 = g j)
theorem ts_no {l : Nat → Nat} {g : Nat → Int64} {j : Nat} (h : ts l g j = false) : ∀ r, ts l g (j + r) = false
  | 0 => h
  | r + 1 => by
    show (ts l g (j + r) && _) = false
    rw [ts_no h r]
    rfl
def so (p : Nat → Bool) (U : Nat → Int32) : Nat → Option Nat
  | 0 => none
  | v + 1 => if v % 10 < 5 then (match so p U v with
    | none => if p v = true then some v else none
    | some u => if U v < U u then (if p v = true then some v else some u) else some u) else so p U v
theorem so_gap {p : Nat → Bool} {U : Nat → Int32} {a : Nat} : ∀ r, (∀ u, a ≤ u → u < a + r → ¬ u % 10 < 5) → so p U (a + r) = so p U a
  | 0, _ => rfl
  | r + 1, h => by
    rw [show a + (r + 1) = (a + r) + 1 from rfl, so, if_neg (h (a + r) (by omega) (by omega)), so_gap r (fun u h1 h2 => h u h1 (by omega))]
theorem so_mem {p : Nat → Bool} {U : Nat → Int32} : ∀ {v u : Nat}, so p U v = some u → u < v ∧ u % 10 < 5
  | 0, u, h => by cases h
  | v + 1, u, h => by
    rw [so] at h
    by_cases q : v % 10 < 5
    · rw [if_pos q] at h
      cases e : so p U v with
      | none =>
        rw [e] at h
        simp only at h
        by_cases z : p v = true
        · rw [if_pos z] at h
          cases h
          exact ⟨by omega, q⟩
        · rw [if_neg z] at h
          cases h
      | some u' =>
        rw [e] at h
        simp only at h
        have ih := so_mem e
        by_cases z1 : U v < U u'
        · rw [if_pos z1] at h
          by_cases z : p v = true
          · rw [if_pos z] at h
            cases h
            exact ⟨by omega, q⟩
          · rw [if_neg z] at h
            cases h
            exact ⟨by omega, ih.2⟩
        · rw [if_neg z1] at h
          cases h
          exact ⟨by omega, ih.2⟩
    · rw [if_neg q] at h
      have ih := so_mem h
      exact ⟨by omega, ih.2⟩
def eL (U : Nat → Int32) : Option Nat → Int32
  | none => cI (-1)
  | some u => U u
def eB : Option Nat → Int32
  | none => cI (-1)
  | some u => nI u
def bc (x : Int32) : Int32 := (fJ6_bitCount_0f7a4 x).getD 0
theorem bc_eq (x : Int32) : fJ6_bitCount_0f7a4 x = some (bc x) := rfl
theorem bc_m1 : ∀ a, a < 16 → ∀ d, d < 16 → ¬ bc (nI a ^^^ nI d) + 0 = cI (-1) ∧ ¬ bc (nI a ^^^ nI d) + 1 = cI (-1) := by decide +kernel
def UL (d f v : Nat) : Int32 := if nI (v % 10) = nI f then bc (nI (v / 10) ^^^ nI d) + 0 else bc (nI (v / 10) ^^^ nI d) + 1
theorem UL_m1 {d f v : Nat} (hd : d < 16) (hv : v / 10 < 16) : ¬ UL d f v = cI (-1) := by
  unfold UL
  split
  · exact (bc_m1 _ hv d hd).1
  · exact (bc_m1 _ hv d hd).2
section C8
variable {n c : Nat} {k w l : Nat → Nat} {d f wm hr b ch : Nat} {sd : Int32} {P : PT} {Q : QT} {S : XT} {M : MT} {p1 p2 p3 p4 p5 : Int32}
theorem x_st {g : Nat → Int64} (hc : c ≤ 10) : fX1_standsAsTold (eH n c k w l d f wm hr b ch sd) g = some (if ts l g c = true then (1 : Int32) else 0) := by
  have q : ∀ (r j fu : Nat), j + r = c → r < fu → ts l g j = true → fX1_standsAsTold_L2 (eH n c k w l d f wm hr b ch sd) g fu (nI j) = some (if ts l g c = true then (1 : Int32) else 0) := by
    intro r
    induction r with
    | zero =>
      intro j fu e hf hs
      obtain rfl : j = c := by omega
      cases fu with
      | zero => omega
      | succ fu =>
        unfold fX1_standsAsTold_L2
        simp only [e_side, e_count, e_kind, e_weight, e_cell, e_doors, e_fan, e_warm, e_hour, e_beam, e_chance, e_seed]
        rw [if_pos (nI_le (Nat.le_refl _) (by omega)), if_pos hs]
    | succ r ih =>
      intro j fu e hf hs
      cases fu with
      | zero => omega
      | succ fu =>
        have h40 : ¬ (40 : Int32) ≤ nI j := nI_ge (a := j) (b := 40) (by omega) (by omega)
        unfold fX1_standsAsTold_L2
        simp only [e_side, e_count, e_kind, e_weight, e_cell, e_doors, e_fan, e_warm, e_hour, e_beam, e_chance, e_seed, u_gd (show j < 10 by omega) (show 10 < 2 ^ 31 by decide), u_gd (show j < 40 by omega) (show 40 < 2 ^ 31 by decide), u_ix (show j < 2 ^ 31 by omega), lg_cmp_eq, if_neg h40]
        rw [if_neg (nI_ge (show j < c by omega) (by omega)), nI_1]
        by_cases q : (nI (l j)).toInt64 = g j
        · rw [if_pos q]
          exact ih (j + 1) fu (by omega) (by omega) (by rw [ts, hs, decide_eq_true q]; rfl)
        · rw [if_neg q]
          have z : ts l g (j + 1) = false := by rw [ts, hs, decide_eq_false q]; rfl
          have := ts_no z r
          rw [show j + 1 + r = c by omega] at this
          rw [this]
          rfl
  exact q c 0 FU (by omega) (by show c < 1100; omega) rfl
theorem m_ct {s t : Nat} (h : HI n c k w l d f wm hr b ch) (hs : s < 8) (ht : t ≤ 1000) : ∃ Q', fX5_comesTo (nI s) (nI t) (eM n c k w l d f wm hr b ch sd P Q) = some (if ts (cl n c k l d f wm b hr t) (fun i => p_rowOf P (40 * s + i)) c = true then (1 : Int32) else 0, eM n c k w l d f wm hr b ch sd P Q') := by
  have hc := h.hc
  obtain ⟨Q', eq, hW⟩ := m_goesOn (sd := sd) (P := P) (Q := Q) h ht
  refine ⟨Q', ?_⟩
  unfold fX5_comesTo
  rw [eq]
  simp only [bs]
  have q : ∀ (r j fu : Nat), j + r = c → r < fu → fX5_comesTo_L10 (nI s) (nI t) fu (if ts (cl n c k l d f wm b hr t) (fun i => p_rowOf P (40 * s + i)) j = true then (1 : Int32) else 0) (nI j) (eM n c k w (cl n c k l d f wm b hr t) d f wm (hrs hr t) b ch sd P Q') = some (if ts (cl n c k l d f wm b hr t) (fun i => p_rowOf P (40 * s + i)) c = true then (1 : Int32) else 0, eM n c k w l d f wm hr b ch sd P Q') := by
    intro r
    induction r with
    | zero =>
      intro j fu e hf
      obtain rfl : j = c := by omega
      cases fu with
      | zero => omega
      | succ fu =>
        unfold fX5_comesTo_L10
        simp only [f_n, f_motes, f_kind, f_own, f_cell, f_doors, f_ways, f_seed]
        rw [if_pos (nI_le (Nat.le_refl _) (by omega)), m_end h hW]
        simp only [bs]
        split
        · rfl
        · rfl
    | succ r ih =>
      intro j fu e hf
      cases fu with
      | zero => omega
      | succ fu =>
        have ih' := ih (j + 1) fu (by omega) (by omega)
        unfold fX5_comesTo_L10 fX5_comesTo_j40
        rw [m_ta hs (by omega)]
        simp only [f_n, f_motes, f_kind, f_own, f_cell, f_doors, f_ways, f_seed, bs, u_gd (show j < 10 by omega) (show 10 < 2 ^ 31 by decide), u_ix (show j < 2 ^ 31 by omega), lg_cmp_eq]
        rw [if_neg (nI_ge (show j < c by omega) (by omega)), nI_1]
        by_cases q : (nI (cl n c k l d f wm b hr t j)).toInt64 = p_rowOf P (40 * s + j)
        · rw [if_pos q]
          rw [ts, decide_eq_true q, Bool.and_true] at ih'
          exact ih'
        · rw [if_neg q]
          rw [ts, decide_eq_false q, Bool.and_false] at ih'
          exact ih'
  exact q c 0 FU (by omega) (by show c < 1100; omega)
/-- by setting v all come to what is told -/
abbrev cw (n c : Nat) (k l : Nat → Nat) (wm hr b t : Nat) (g : Nat → Int64) (v : Nat) : Bool := ts (cl n c k l (v / 10) (v % 10) wm b hr t) g c
abbrev cv (p : Nat → Bool) (u : Nat) : Bool := decide (u % 10 < 5) && p u
theorem cv_no {p : Nat → Bool} {u : Nat} (h : ¬ u % 10 < 5) : cv p u = false := by
  show (decide (u % 10 < 5) && p u) = false
  rw [decide_eq_false h]
  rfl
theorem cv_is {p : Nat → Bool} {u : Nat} (h : u % 10 < 5) : cv p u = p u := by
  show (decide (u % 10 < 5) && p u) = p u
  rw [decide_eq_true h]
  rfl
theorem m1v (i : Nat) : nI i + cI (-1) = nI i - 1 := by
  apply Int32.toInt_inj.mp
  rw [show cI (-1) = -1 by decide, Int32.sub_eq_add_neg]
theorem c_which (hR : Rel S M) : Out (fX4_which p1 p2 p3 S) (fX5_which p1 p2 p3 M) := by
  obtain ⟨n, c, k, w, l, d, f, wm, hr, b, ch, sd, P, Q, hx, rfl, h, hX⟩ := hR
  have hR := rel_s (Q := Q) hx h hX
  have hc := h.hc
  obtain ⟨hn, hd, hf, hp'⟩ := h.hp
  unfold fX4_which fX5_which fX4_which_j22 fX4_which_j23 fX5_which_j23
  have bad : Out ((fX4_rowRefusal p1 (0 : Int32) (h_count (x_now S)) S).bind fun q3 => if q3 = 0 then fX4_which_L56 p1 p2 p3 FU (0 : Int32) (cI (-1)) (0 : Int32) S else (fX4_refuse q3 S).bind fun q10 => some (q10.1, q10.2)) ((fX5_no (cI (-2)) (eM n c k w l d f wm hr b ch sd P Q)).bind fun q3 => some (q3.1, q3.2)) := by
    rw [rr0]
    simp only [bs, cn2, ↓reduceIte]
    exact out2 hR
  rcases shelf_cases p1 with ⟨a, a'⟩ | ⟨s, hs, rfl, a, a'⟩
  · rw [a']
    simp only [bs, ↓reduceIte]
    rw [rrn a, rrn a]
    simp only [bs, cn2, ↓reduceIte, ite_self]
    rcases time_cases p2 with ⟨b', b''⟩ | ⟨t, ht, rfl, b', b''⟩
    · rw [b']
      simp only [bs, ite_self]
      exact out2 hR
    · rw [b']
      simp only [bs, ite_self]
      exact out2 hR
  rw [a']
  simp only [bs, one0, ↓reduceIte]
  rcases time_cases p2 with ⟨b', b''⟩ | ⟨t, ht, rfl, b', b''⟩
  · rw [b', b'']
    simp only [bs, ↓reduceIte]
    exact bad
  rw [b', b'']
  simp only [bs, one0, ↓reduceIte]
  rcases wi_cases (N := 1) (1 : Int32) p3 rfl (by decide) with ⟨e, h1 | ⟨h1, h2, h3⟩⟩ | ⟨v, hv, rfl, h1, h2, h3, e⟩
  · rw [e, if_pos h1]
    simp only [bs, ↓reduceIte]
    exact bad
  · rw [e, if_neg h1, if_pos h2]
    simp only [bs, ↓reduceIte]
    exact bad
  clear bad
  rw [e, if_neg h1, if_neg h2, show h_count (x_now S) = nI c by rw [hx]; rfl, f_motes]
  simp only [bs, one0, ↓reduceIte]
  rcases told_cases (n := n) (k := k) (w := w) (l := l) (d := d) (f := f) (wm := wm) (hr := hr) (b := b) (ch := ch) (sd := sd) (Q := Q) hs (show c ≤ 40 by omega) hX hc with ⟨cd, j, hj, e1, e2, e3, e4, e5, e6⟩ | ⟨e5, e6, hE⟩
  · rw [e5, e6]
    simp only [bs, if_neg e3, if_neg e4]
    exact out_no hj e1 e2 hR
  rw [e5, e6, m_sn hd hf]
  simp only [bs, i00, ↓reduceIte]
  generalize hp : cw n c k l wm hr b t (fun i => p_rowOf P (40 * s + i)) = p
  have hpv : ∀ a e, e < 5 → p (10 * a + e) = ts (cl n c k l a e wm b hr t) (fun i => p_rowOf P (40 * s + i)) c := by
    intro a e he
    rw [← hp]
    show ts (cl n c k l ((10 * a + e) / 10) ((10 * a + e) % 10) wm b hr t) _ c = _
    rw [show (10 * a + e) / 10 = a by omega, show (10 * a + e) % 10 = e by omega]
  have xi : ∀ (a : Nat), a < 16 → ∀ (kx : Int32 → Int32 → Int32 → XT → Option (Int32 × XT)) (r e fu : Nat) (lst : Int32) (T : HallT), e + r = 5 → r < fu → Zh T → ∃ (T' : HallT) (lst' : Int32), Zh T' ∧ fX4_which_L66 kx (nI s) (nI t) (nI v) fu (nI (ct p (10 * a + e))) lst (nI a) (nI e) (xs_trial S T) = kx (nI (ct p (10 * (a + 1)))) lst' (nI (a + 1)) (xs_trial S T') ∧ (if lst' = cI (-1) then ff (cv p) (160 - 10 * (a + 1)) (10 * (a + 1)) else lst') = (if lst = cI (-1) then ff (cv p) (160 - (10 * a + e)) (10 * a + e) else lst) := by
    intro a ha kx r
    induction r with
    | zero =>
      intro e fu lst T e1 hf hT
      obtain rfl : e = 5 := by omega
      cases fu with
      | zero => omega
      | succ fu =>
        refine ⟨T, lst, hT, ?_, ?_⟩
        · unfold fX4_which_L66
          rw [if_pos (show (4 : Int32) < nI 5 by decide), nI_1, show 10 * (a + 1) = 10 * a + 5 + 5 by omega, ct_gap (a := 10 * a + 5) 5 (fun u h1 h2 => by omega)]
        · have := ff_gap (p := cv p) (m := 160 - 10 * (a + 1)) 5 (10 * a + 5) (fun u h1 h2 => cv_no (by omega))
          rw [show 160 - 10 * (a + 1) + 5 = 160 - (10 * a + 5) by omega, show 10 * a + 5 + 5 = 10 * (a + 1) by omega] at this
          rw [this]
    | succ r ih =>
      intro e fu lst T e1 hf hT
      cases fu with
      | zero => omega
      | succ fu =>
        have n4 : ¬ (4 : Int32) < nI e := nI_nlt (a := 4) (b := e) (by omega) (by omega)
        have h' := (h.sets ha (show e ≤ 4 by omega)).after (t := t)
        have hpe := hpv a e (by omega)
        have eE : sh_elements (x_sh S s) = sh_elements (x_sh S s) := rfl
        have ets : ts (cl n c k l a e wm b hr t) (sh_elements (x_sh S s)) c = p (10 * a + e) := by
          rw [hpe]
          have gen : ∀ j, j ≤ c → ts (cl n c k l a e wm b hr t) (sh_elements (x_sh S s)) j = ts (cl n c k l a e wm b hr t) (fun i => p_rowOf P (40 * s + i)) j := by
            intro j
            induction j with
            | zero => intro _; rfl
            | succ j ihj =>
              intro hj
              rw [ts, ts, ihj (by omega), hE j (by omega)]
          exact gen c (Nat.le_refl _)
        unfold fX4_which_L66 fX4_which_j122 fX4_which_j124
        rw [if_neg n4, x_lab hx h hT ha (by omega) ht]
        simp only [bs, xtg, xts, u_gd hs (show 8 < 2 ^ 31 by decide), u_ix (show s < 2 ^ 31 by omega)]
        rw [x_st hc, nI_1, nI10, ets]
        simp only [bs]
        have eff : ff (cv p) (160 - (10 * a + e)) (10 * a + e) = if p (10 * a + e) = true then nI (10 * a + e) else ff (cv p) (160 - (10 * a + (e + 1))) (10 * a + (e + 1)) := by
          rw [show 160 - (10 * a + e) = (160 - (10 * a + (e + 1))) + 1 by omega, ff, cv_is (by omega)]
          rfl
        rw [eff]
        have ec : ct p (10 * a + (e + 1)) = ct p (10 * a + e) + (if p (10 * a + e) = true then 1 else 0) := by
          rw [show 10 * a + (e + 1) = (10 * a + e) + 1 from rfl, ct]
          by_cases q : p (10 * a + e) = true
          · rw [if_pos q, if_pos ⟨by omega, q⟩]
          · rw [if_neg q, if_neg (fun z => q z.2)]
        by_cases q : p (10 * a + e) = true
        · rw [if_pos q] at ec
          simp only [if_pos q, one0, ↓reduceIte]
          by_cases q2 : lst = cI (-1)
          · simp only [if_pos q2]
            obtain ⟨T', lst', z1, z2, z3⟩ := ih (e + 1) fu (nI (10 * a + e)) _ (by omega) (by omega) (h'.zh (sd := sd))
            rw [ec, ← nI_1] at z2
            rw [if_neg (m1n (by omega))] at z3
            exact ⟨T', lst', z1, z2, z3⟩
          · simp only [if_neg q2]
            obtain ⟨T', lst', z1, z2, z3⟩ := ih (e + 1) fu lst _ (by omega) (by omega) (h'.zh (sd := sd))
            rw [ec, ← nI_1] at z2
            rw [if_neg q2] at z3
            exact ⟨T', lst', z1, z2, z3⟩
        · rw [if_neg q] at ec
          simp only [if_neg q, ↓reduceIte]
          obtain ⟨T', lst', z1, z2, z3⟩ := ih (e + 1) fu lst _ (by omega) (by omega) (h'.zh (sd := sd))
          rw [ec] at z2
          exact ⟨T', lst', z1, z2, z3⟩
  have xo : ∀ (r a fu : Nat) (lst : Int32) (T : HallT), a + r = 16 → r < fu → Zh T → ∃ T', Zh T' ∧ fX4_which_L56 (nI s) (nI t) (nI v) fu (nI (ct p (10 * a))) lst (nI a) (xs_trial S T) = fX4_which_j136 (nI s) (nI t) (nI v) (nI (ct p 160)) (if lst = cI (-1) then ff (cv p) (160 - 10 * a) (10 * a) else lst) (xs_trial S T') := by
    intro r
    induction r with
    | zero =>
      intro a fu lst T e hf hT
      obtain rfl : a = 16 := by omega
      cases fu with
      | zero => omega
      | succ fu =>
        refine ⟨T, hT, ?_⟩
        unfold fX4_which_L56
        rw [if_pos (show (16 : Int32) ≤ nI 16 by decide)]
        have : (if lst = cI (-1) then ff (cv p) (160 - 10 * 16) (10 * 16) else lst) = lst := by
          by_cases q : lst = cI (-1)
          · rw [if_pos q, q]
            rfl
          · rw [if_neg q]
        rw [this]
    | succ r ih =>
      intro a fu lst T e hf hT
      cases fu with
      | zero => omega
      | succ fu =>
        unfold fX4_which_L56
        rw [if_neg (show ¬ (16 : Int32) ≤ nI a from nI_ge (a := a) (b := 16) (by omega) (by omega))]
        obtain ⟨T1, lst1, hT1, e1, e2⟩ := xi a (by omega) (fun v5 v6 v7 S0 => fX4_which_L56 (nI s) (nI t) (nI v) fu v5 v6 v7 S0) 5 0 FU lst T (by omega) (by show 5 < 1100; omega) hT
        rw [show fX4_which_L66 _ (nI s) (nI t) (nI v) FU (nI (ct p (10 * a))) lst (nI a) (0 : Int32) (xs_trial S T) = _ from e1]
        obtain ⟨T2, hT2, e3⟩ := ih (a + 1) fu lst1 T1 (by omega) (by omega) hT1
        refine ⟨T2, hT2, ?_⟩
        rw [e2] at e3
        exact e3
  have mo : ∀ (i fu a : Nat) (d' f' : Nat) (Q : QT), i ≤ 155 → i < fu → a + ct p i = ct p 155 → ∃ Q' : Nat × Nat × QT, fX5_which_L70 (nI s) (nI t) (nI v) fu (nI (10 * d + f)) (nI a) (ff (cv p) (155 - i) i) (nI i - 1) (eM n c k w l d' f' wm hr b ch sd P Q) = fX5_which_j118 (nI s) (nI t) (nI v) (nI (10 * d + f)) (nI (ct p 155)) (ff (cv p) 155 0) (eM n c k w l Q'.1 Q'.2.1 wm hr b ch sd P Q'.2.2) := by
    intro i
    induction i with
    | zero =>
      intro fu a d' f' Q hi hf' ha
      cases fu with
      | zero => omega
      | succ fu =>
        refine ⟨(d', f', Q), ?_⟩
        unfold fX5_which_L70
        rw [if_pos (by decide)]
        have : a = ct p 155 := by
          have z : ct p 0 = 0 := rfl
          omega
        rw [this]
    | succ i ih =>
      intro fu a d' f' Q hi hf' ha
      cases fu with
      | zero => omega
      | succ fu =>
        unfold fX5_which_L70 fX5_which_j112
        rw [nI_pred, if_neg (nI_pos (by omega)), iset (by omega)]
        simp only [bs, m1v]
        rw [ct] at ha
        by_cases q : i % 10 < 5
        · simp only [if_pos q, one0, ↓reduceIte]
          have es := m_sets (n := n) (c := c) (k := k) (w := w) (l := l) (d := d') (f := f') (wm := wm) (hr := hr) (b := b) (ch := ch) (sd := sd) (P := P) (Q := Q) (a := i / 10) (e := i % 10) (by omega) (by omega)
          rw [isC_eq] at es
          obtain ⟨Q1, e1⟩ := m_ct (s := s) (sd := sd) (P := P) (Q := Q) (h.sets (show i / 10 < 16 by omega) (show i % 10 ≤ 4 by omega)) hs (show t ≤ 1000 by omega)
          have hpi := hpv (i / 10) (i % 10) q
          rw [isC_eq] at hpi
          rw [es]
          simp only [bs]
          rw [e1, ← hpi]
          simp only [bs]
          have eff : ff (cv p) (155 - i) i = if p i = true then nI i else ff (cv p) (155 - (i + 1)) (i + 1) := by
            rw [show 155 - i = (155 - (i + 1)) + 1 by omega, ff, cv_is q]
          by_cases q2 : p i = true
          · rw [if_pos ⟨q, q2⟩] at ha
            rw [if_pos q2] at eff
            simp only [if_pos q2, one0, ↓reduceIte]
            have ih' := ih fu (a + 1) (i / 10) (i % 10) Q1 (by omega) (by omega) (by omega)
            rw [eff, ← nI_1] at ih'
            exact ih'
          · rw [if_neg (fun z => q2 z.2)] at ha
            rw [if_neg q2] at eff
            simp only [if_neg q2, ↓reduceIte]
            have ih' := ih fu a (i / 10) (i % 10) Q1 (by omega) (by omega) (by omega)
            rw [eff] at ih'
            exact ih'
        · simp only [if_neg q, ↓reduceIte]
          rw [if_neg (fun z => q z.1)] at ha
          have eff : ff (cv p) (155 - i) i = ff (cv p) (155 - (i + 1)) (i + 1) := by
            rw [show 155 - i = (155 - (i + 1)) + 1 by omega, ff, cv_no q]
            rfl
          have ih' := ih fu a d' f' Q (by omega) (by omega) (by omega)
          rw [eff] at ih'
          exact ih'
  obtain ⟨T, hT, x1⟩ := xo 16 0 FU (cI (-1)) (x_trial S) (by omega) (by show 16 < 1100; omega) hX.1.1
  obtain ⟨⟨d', f', Q'⟩, m1⟩ := mo 155 FU 0 d f Q (by omega) (by show 155 < 1100; omega) (by omega)
  rw [show fX4_which_L56 (nI s) (nI t) (nI v) FU (0 : Int32) (cI (-1)) (0 : Int32) S = _ from x1, show fX5_which_L70 (nI s) (nI t) (nI v) FU (nI (10 * d + f)) (0 : Int32) (cI (-1)) (154 : Int32) (eM n c k w l d f wm hr b ch sd P Q) = _ from m1]
  have g1 : ct p 160 = ct p 155 := ct_gap (a := 155) 5 (fun u h1 h2 => by omega)
  have g2 : ff (cv p) 160 0 = ff (cv p) 155 0 := ff_tail (m := 5) 155 0 (fun u h1 h2 => cv_no (by omega))
  unfold fX4_which_j136 fX5_which_j118
  rw [if_pos rfl, g1, show 160 - 10 * 0 = 160 from rfl, show 10 * 0 = 0 from rfl, g2, m_sets hd (by omega)]
  simp only [bs]
  by_cases q : nI v = 0
  · rw [if_pos q, if_pos q]
    exact rel_e hx h hX hT rfl
  · rw [if_neg q, if_neg q]
    exact rel_e hx h hX hT rfl
/-! setting -/
theorem m_ul {v d0 f0 : Nat} (hv : v < 2 ^ 31) (hd : d0 < 16) (hf : f0 ≤ 4) : fX5_unlike (nI v) (nI (10 * d0 + f0)) = some (UL d0 f0 v) := by
  unfold fX5_unlike UL
  rw [u_div10 hv, u_irm10 hv, u_div10 (by omega), u_irm10 (by omega), show (10 * d0 + f0) / 10 = d0 by omega, show (10 * d0 + f0) % 10 = f0 by omega, bc_eq]
  simp only [bs]
  split <;> rfl
theorem c_setting (hR : Rel S M) : Out (fX4_setting p1 p2 S) (fX5_setting p1 p2 M) := by
  obtain ⟨n, c, k, w, l, d, f, wm, hr, b, ch, sd, P, Q, hx, rfl, h, hX⟩ := hR
  have hR := rel_s (Q := Q) hx h hX
  obtain ⟨hn, hd, hf, hp'⟩ := h.hp
  unfold fX4_setting fX5_setting fX4_setting_j16 fX5_setting_j16
  rcases time_cases p1 with ⟨a, a'⟩ | ⟨t, ht, rfl, a, a'⟩
  · rw [a, a']
    simp only [bs, ↓reduceIte]
    exact out2 hR
  rw [a, a']
  simp only [bs, one0, ↓reduceIte]
  rcases wi_cases (N := 1) (1 : Int32) p2 rfl (by decide) with ⟨e, h1 | ⟨h1, h2, h3⟩⟩ | ⟨v, hv, rfl, h1, h2, h3, e⟩
  · rw [e, if_pos h1]
    simp only [bs, ↓reduceIte]
    exact out2 hR
  · rw [e, if_neg h1, if_neg h3]
    simp only [bs, ↓reduceIte]
    exact out2 hR
  rw [e, if_neg h1, if_pos h3, m_sn hd hf]
  simp only [bs, one0, ↓reduceIte]
  generalize hp : cs n c k w l wm hr b t = p
  have hpv : ∀ a e, e < 5 → p (10 * a + e) = decide (sm w c < 2 * vb n c k w l a e wm hr b t) := by
    intro a e he
    rw [← hp]
    show cb n c k w l ((10 * a + e) / 10) ((10 * a + e) % 10) wm hr b t = _
    rw [show (10 * a + e) / 10 = a by omega, show (10 * a + e) % 10 = e by omega]
  have xi : ∀ (a : Nat), a < 16 → ∀ (kx : Int32 → Int32 → Int32 → XT → Option (Int32 × XT)) (r e fu : Nat) (T : HallT), e + r = 5 → r < fu → Zh T → ∃ T', Zh T' ∧ fX4_setting_L41 kx (nI t) (nI v) fu (eL (UL d f) (so p (UL d f) (10 * a + e))) (eB (so p (UL d f) (10 * a + e))) (nI a) (nI e) (xs_trial S T) = kx (eL (UL d f) (so p (UL d f) (10 * (a + 1)))) (eB (so p (UL d f) (10 * (a + 1)))) (nI (a + 1)) (xs_trial S T') := by
    intro a ha kx r
    induction r with
    | zero =>
      intro e fu T e1 hf' hT
      obtain rfl : e = 5 := by omega
      cases fu with
      | zero => omega
      | succ fu =>
        refine ⟨T, hT, ?_⟩
        unfold fX4_setting_L41
        rw [if_pos (show (4 : Int32) < nI 5 by decide), nI_1, show 10 * (a + 1) = 10 * a + 5 + 5 by omega, so_gap (a := 10 * a + 5) 5 (fun u h1 h2 => by omega)]
    | succ r ih =>
      intro e fu T e1 hf' hT
      cases fu with
      | zero => omega
      | succ fu =>
        have n4 : ¬ (4 : Int32) < nI e := nI_nlt (a := 4) (b := e) (by omega) (by omega)
        have h' := (h.sets ha (show e ≤ 4 by omega)).after (t := t)
        have hpe := hpv a e (by omega)
        have eU : UL d f (10 * a + e) = if nI e = nI f then bc (nI a ^^^ nI d) + 0 else bc (nI a ^^^ nI d) + 1 := by
          unfold UL
          rw [show (10 * a + e) / 10 = a by omega, show (10 * a + e) % 10 = e by omega]
        have es : so p (UL d f) (10 * a + (e + 1)) = (match so p (UL d f) (10 * a + e) with
          | none => if p (10 * a + e) = true then some (10 * a + e) else none
          | some u => if UL d f (10 * a + e) < UL d f u then (if p (10 * a + e) = true then some (10 * a + e) else some u) else some u) := by
          rw [show 10 * a + (e + 1) = (10 * a + e) + 1 from rfl, so, if_pos (by omega)]
        have ih' := ih (e + 1) fu
        have go : ∀ T, Zh T → ∃ T', Zh T' ∧ fX4_setting_j97 kx (fun v3 v4 v5 v6 S0 => fX4_setting_L41 kx (nI t) (nI v) fu v3 v4 v5 v6 S0) (nI t) (nI v) (eL (UL d f) (so p (UL d f) (10 * a + e))) (eB (so p (UL d f) (10 * a + e))) (nI a) (nI e) (UL d f (10 * a + e)) (xs_trial S T) = fX4_setting_L41 kx (nI t) (nI v) fu (if p (10 * a + e) = true then UL d f (10 * a + e) else eL (UL d f) (so p (UL d f) (10 * a + e))) (if p (10 * a + e) = true then nI (10 * a + e) else eB (so p (UL d f) (10 * a + e))) (nI a) (nI (e + 1)) (xs_trial S T') := by
          intro T hT
          refine ⟨_, h'.zh (sd := sd), ?_⟩
          unfold fX4_setting_j97 fX4_setting_j129
          rw [x_lab hx h hT ha (by omega) ht]
          simp only [bs, xtg]
          rw [x_car h', nI_1, nI10, hpe]
          simp only [bs]
          by_cases q : sm w c < 2 * vb n c k w l a e wm hr b t
          · simp only [if_pos q, one0, ↓reduceIte, decide_eq_true q]
          · simp only [if_neg q, ↓reduceIte, decide_eq_false q]
            rfl
        have head : fX4_setting_L41 kx (nI t) (nI v) (fu + 1) (eL (UL d f) (so p (UL d f) (10 * a + e))) (eB (so p (UL d f) (10 * a + e))) (nI a) (nI e) (xs_trial S T) = if eL (UL d f) (so p (UL d f) (10 * a + e)) = cI (-1) then fX4_setting_j97 kx (fun v3 v4 v5 v6 S0 => fX4_setting_L41 kx (nI t) (nI v) fu v3 v4 v5 v6 S0) (nI t) (nI v) (eL (UL d f) (so p (UL d f) (10 * a + e))) (eB (so p (UL d f) (10 * a + e))) (nI a) (nI e) (UL d f (10 * a + e)) (xs_trial S T) else if UL d f (10 * a + e) < eL (UL d f) (so p (UL d f) (10 * a + e)) then fX4_setting_j97 kx (fun v3 v4 v5 v6 S0 => fX4_setting_L41 kx (nI t) (nI v) fu v3 v4 v5 v6 S0) (nI t) (nI v) (eL (UL d f) (so p (UL d f) (10 * a + e))) (eB (so p (UL d f) (10 * a + e))) (nI a) (nI e) (UL d f (10 * a + e)) (xs_trial S T) else fX4_setting_L41 kx (nI t) (nI v) fu (eL (UL d f) (so p (UL d f) (10 * a + e))) (eB (so p (UL d f) (10 * a + e))) (nI a) (nI (e + 1)) (xs_trial S T) := by
          conv => lhs; unfold fX4_setting_L41
          rw [if_neg n4, xtn, hx, e_doors, e_fan, bc_eq]
          simp only [bs]
          unfold fX4_setting_j77 fX4_bit fX4_setting_j129
          simp only [bs, one0, ↓reduceIte]
          rw [nI_1]
          by_cases q : nI e = nI f
          · rw [if_pos q] at eU
            rw [if_pos q, eU]
          · rw [if_neg q] at eU
            rw [if_neg q, eU]
        rw [head]
        cases hso : so p (UL d f) (10 * a + e) with
        | none =>
          rw [hso] at es go
          rw [if_pos (show eL (UL d f) none = cI (-1) from rfl)]
          obtain ⟨T1, hT1, g1⟩ := go T hT
          rw [g1]
          obtain ⟨T2, hT2, g2⟩ := ih' T1 (by omega) (by omega) hT1
          refine ⟨T2, hT2, ?_⟩
          rw [es] at g2
          by_cases q : p (10 * a + e) = true
          · simp only [if_pos q] at g2 ⊢
            exact g2
          · simp only [if_neg q] at g2 ⊢
            exact g2
        | some u =>
          rw [hso] at es go
          have hu := so_mem hso
          rw [if_neg (show ¬ eL (UL d f) (some u) = cI (-1) from UL_m1 hd (by omega))]
          by_cases q1 : UL d f (10 * a + e) < UL d f u
          · rw [if_pos (show UL d f (10 * a + e) < eL (UL d f) (some u) from q1)]
            obtain ⟨T1, hT1, g1⟩ := go T hT
            rw [g1]
            obtain ⟨T2, hT2, g2⟩ := ih' T1 (by omega) (by omega) hT1
            refine ⟨T2, hT2, ?_⟩
            rw [es] at g2
            simp only [if_pos q1] at g2
            by_cases q : p (10 * a + e) = true
            · simp only [if_pos q] at g2 ⊢
              exact g2
            · simp only [if_neg q] at g2 ⊢
              exact g2
          · rw [if_neg (show ¬ UL d f (10 * a + e) < eL (UL d f) (some u) from q1)]
            obtain ⟨T2, hT2, g2⟩ := ih' T (by omega) (by omega) hT
            refine ⟨T2, hT2, ?_⟩
            rw [es] at g2
            simp only [if_neg q1] at g2
            exact g2
  have xo : ∀ (r a fu : Nat) (T : HallT), a + r = 16 → r < fu → Zh T → ∃ T', Zh T' ∧ fX4_setting_L31 (nI t) (nI v) fu (eL (UL d f) (so p (UL d f) (10 * a))) (eB (so p (UL d f) (10 * a))) (nI a) (xs_trial S T) = fX4_setting_j141 (nI t) (nI v) (eL (UL d f) (so p (UL d f) 160)) (eB (so p (UL d f) 160)) (xs_trial S T') := by
    intro r
    induction r with
    | zero =>
      intro a fu T e hf' hT
      obtain rfl : a = 16 := by omega
      cases fu with
      | zero => omega
      | succ fu =>
        refine ⟨T, hT, ?_⟩
        unfold fX4_setting_L31
        rw [if_pos (show (16 : Int32) ≤ nI 16 by decide)]
    | succ r ih =>
      intro a fu T e hf' hT
      cases fu with
      | zero => omega
      | succ fu =>
        unfold fX4_setting_L31
        rw [if_neg (show ¬ (16 : Int32) ≤ nI a from nI_ge (a := a) (b := 16) (by omega) (by omega))]
        obtain ⟨T1, hT1, e1⟩ := xi a (by omega) (fun v3 v4 v5 S0 => fX4_setting_L31 (nI t) (nI v) fu v3 v4 v5 S0) 5 0 FU T (by omega) (by show 5 < 1100; omega) hT
        rw [show fX4_setting_L41 _ (nI t) (nI v) FU (eL (UL d f) (so p (UL d f) (10 * a))) (eB (so p (UL d f) (10 * a))) (nI a) (0 : Int32) (xs_trial S T) = _ from e1]
        exact ih (a + 1) fu T1 (by omega) (by omega) hT1
  have mo : ∀ (r i fu : Nat) (d' f' : Nat) (Q : QT), i + r = 155 → r < fu → ∃ Q' : Nat × Nat × QT, fX5_setting_L34 (nI t) (nI v) fu (nI (10 * d + f)) (eB (so p (UL d f) i)) (nI i) (eM n c k w l d' f' wm hr b ch sd P Q) = fX5_setting_j99 (nI t) (nI v) (nI (10 * d + f)) (eB (so p (UL d f) 155)) (eM n c k w l Q'.1 Q'.2.1 wm hr b ch sd P Q'.2.2) := by
    intro r
    induction r with
    | zero =>
      intro i fu d' f' Q e hf'
      obtain rfl : i = 155 := by omega
      cases fu with
      | zero => omega
      | succ fu =>
        refine ⟨(d', f', Q), ?_⟩
        unfold fX5_setting_L34
        rw [if_pos (show (155 : Int32) ≤ nI 155 by decide)]
    | succ r ih =>
      intro i fu d' f' Q e hf'
      cases fu with
      | zero => omega
      | succ fu =>
        have n155 : ¬ (155 : Int32) ≤ nI i := nI_ge (a := i) (b := 155) (by omega) (by omega)
        by_cases q : i % 10 < 5
        · have es := m_sets (n := n) (c := c) (k := k) (w := w) (l := l) (d := d') (f := f') (wm := wm) (hr := hr) (b := b) (ch := ch) (sd := sd) (P := P) (Q := Q) (a := i / 10) (e := i % 10) (by omega) (by omega)
          rw [isC_eq] at es
          obtain ⟨Q1, e1⟩ := m_cb (sd := sd) (P := P) (Q := Q) (h.sets (show i / 10 < 16 by omega) (show i % 10 ≤ 4 by omega)) (show t ≤ 1000 by omega)
          have hpi := hpv (i / 10) (i % 10) q
          rw [isC_eq] at hpi
          have go : fX5_setting_j75 (fun v3 v4 v5 S0 => fX5_setting_L34 (nI t) (nI v) fu v3 v4 v5 S0) (nI t) (nI v) (nI (10 * d + f)) (eB (so p (UL d f) i)) (nI i) (eM n c k w l d' f' wm hr b ch sd P Q) = fX5_setting_L34 (nI t) (nI v) fu (nI (10 * d + f)) (if p i = true then nI i else eB (so p (UL d f) i)) (nI (i + 1)) (eM n c k w l (i / 10) (i % 10) wm hr b ch sd P Q1) := by
            unfold fX5_setting_j75 fX5_setting_j93
            rw [es]
            simp only [bs]
            rw [e1, nI_1, hpi]
            simp only [bs]
            by_cases q2 : sm w c < 2 * vb n c k w l (i / 10) (i % 10) wm hr b t
            · simp only [if_pos q2, one0, ↓reduceIte, decide_eq_true q2]
            · simp only [if_neg q2, ↓reduceIte, decide_eq_false q2]
              rfl
          have ih' := ih (i + 1) fu
          have e2 : so p (UL d f) (i + 1) = (match so p (UL d f) i with
            | none => if p i = true then some i else none
            | some u => if UL d f i < UL d f u then (if p i = true then some i else some u) else some u) := by
            rw [so, if_pos q]
          unfold fX5_setting_L34
          rw [if_neg n155, iset (by omega)]
          simp only [bs, if_pos q, one0, ↓reduceIte]
          cases hso : so p (UL d f) i with
          | none =>
            rw [hso] at e2 go
            rw [if_pos (show eB none = cI (-1) from rfl), go]
            obtain ⟨Q2, g2⟩ := ih' (i / 10) (i % 10) Q1 (by omega) (by omega)
            refine ⟨Q2, ?_⟩
            rw [e2] at g2
            by_cases q2 : p i = true
            · simp only [if_pos q2] at g2 ⊢
              exact g2
            · simp only [if_neg q2] at g2 ⊢
              exact g2
          | some u =>
            rw [hso] at e2 go
            have hu := so_mem hso
            rw [if_neg (show ¬ eB (some u) = cI (-1) from m1n (by omega)), m_ul (by omega) hd hf, show fX5_unlike (eB (some u)) (nI (10 * d + f)) = _ from m_ul (v := u) (by omega) hd hf]
            simp only [bs]
            by_cases q1 : UL d f i < UL d f u
            · rw [if_pos q1, go]
              obtain ⟨Q2, g2⟩ := ih' (i / 10) (i % 10) Q1 (by omega) (by omega)
              refine ⟨Q2, ?_⟩
              rw [e2] at g2
              simp only [if_pos q1] at g2
              by_cases q2 : p i = true
              · simp only [if_pos q2] at g2 ⊢
                exact g2
              · simp only [if_neg q2] at g2 ⊢
                exact g2
            · rw [if_neg q1]
              unfold fX5_setting_j93
              rw [nI_1]
              obtain ⟨Q2, g2⟩ := ih' d' f' Q (by omega) (by omega)
              refine ⟨Q2, ?_⟩
              rw [e2] at g2
              simp only [if_neg q1] at g2
              exact g2
        · unfold fX5_setting_L34 fX5_setting_j93
          rw [if_neg n155, iset (by omega)]
          simp only [bs, if_neg q, ↓reduceIte]
          rw [nI_1]
          have ih' := ih (i + 1) fu d' f' Q (by omega) (by omega)
          rw [so, if_neg q] at ih'
          exact ih'
  obtain ⟨T, hT, x1⟩ := xo 16 0 FU (x_trial S) (by omega) (by show 16 < 1100; omega) hX.1.1
  obtain ⟨⟨d', f', Q'⟩, m1⟩ := mo 155 0 FU d f Q (by omega) (by show 155 < 1100; omega)
  rw [show fX4_setting_L31 (nI t) (nI v) FU (cI (-1)) (cI (-1)) (0 : Int32) S = _ from x1, show fX5_setting_L34 (nI t) (nI v) FU (nI (10 * d + f)) (cI (-1)) (0 : Int32) (eM n c k w l d f wm hr b ch sd P Q) = _ from m1]
  rw [show so p (UL d f) 160 = so p (UL d f) 155 from so_gap (a := 155) 5 (fun u h1 h2 => by omega)]
  unfold fX4_setting_j141 fX5_setting_j99
  rw [m_sets hd (by omega)]
  simp only [bs]
  have hv5 : v = 0 ∨ v = 1 := by omega
  cases hso : so p (UL d f) 155 with
  | none =>
    rw [if_pos (show eB none = cI (-1) from rfl)]
    rcases hv5 with rfl | rfl
    · rw [if_pos (by decide)]
      exact rel_e hx h hX hT rfl
    · rw [if_neg (by decide)]
      exact rel_e hx h hX hT rfl
  | some u =>
    have hu := so_mem hso
    rw [if_neg (show ¬ eB (some u) = cI (-1) from m1n (by omega)), show fX5_unlike (eB (some u)) (nI (10 * d + f)) = _ from m_ul (v := u) (by omega) hd hf]
    simp only [bs]
    rcases hv5 with rfl | rfl
    · rw [if_pos (by decide), if_neg (by decide)]
      exact rel_e hx h hX hT rfl
    · rw [if_neg (by decide), if_pos (by decide)]
      exact rel_e hx h hX hT rfl
end C8
