/-! ===== pure layer: the hall told, the tape fed, steps in truth ===== -/
def un (l : Nat → Nat) (j v : Nat) : Nat → Nat := fun i => if i = j then v else l i
theorem u_un {l : Nat → Nat} {j v : Nat} : upd (fun i => nI (l i)) j (nI v) = fun i => nI (un l j v i) := u_upd (fun _ hi => if_neg hi) (if_pos rfl)
theorem nn_lt {p B : Int32} (h : ¬ p < B) (hB : ¬ B < 0) : ¬ p < 0 := fun q => h (by
  apply Int32.lt_iff_toInt_lt.mpr
  have a := Int32.lt_iff_toInt_lt.mp q
  have b : ¬ B.toInt < (0 : Int32).toInt := fun z => hB (Int32.lt_iff_toInt_lt.mpr z)
  have e : (0 : Int32).toInt = 0 := by decide
  rw [e] at a b
  omega)
section C2
variable {n c : Nat} {k w l : Nat → Nat} {d f wm hr b ch : Nat} {sd : Int32} {P : PT} {Q : QT} {S : XT} {M : MT} {p1 p2 p3 p4 p5 : Int32}
theorem rel_now {c0 : Nat} (h : HI n c k w l d f wm hr b ch) (hX : RX S P c0) (hc : c0 ≤ c) : Rel (xs_now S (eH n c k w l d f wm hr b ch sd)) (eM n c k w l d f wm hr b ch sd P Q) := by
  obtain ⟨h1, h2, h3, h4, h5⟩ := hX
  refine ⟨n, c, k, w, l, d, f, wm, hr, b, ch, sd, P, Q, rfl, rfl, h, h1, fun s hs => ?_, h3, h4, h5⟩
  rcases h2 s hs with q | q | ⟨q1, m, hm, q2⟩
  · exact Or.inl q
  · exact Or.inr (Or.inl q)
  · exact Or.inr (Or.inr ⟨q1, m, by omega, q2⟩)
theorem c_side (hR : Rel S M) : Out (fX4_side p1 S) (fX5_side p1 M) := by
  obtain ⟨n, c, k, w, l, d, f, wm, hr, b, ch, sd, P, Q, hx, rfl, h, hX⟩ := hR
  have hR := rel_s (Q := Q) hx h hX
  obtain ⟨hn6, hn7⟩ := h.hp.1
  unfold fX4_side fX5_side fX5_side_j18 fX1_maySide fX5_within
  rw [hx]
  simp only [e_side, e_count, e_kind, e_weight, e_cell, e_doors, e_fan, e_warm, e_hour, e_beam, e_chance, e_seed, f_n, f_motes, f_kind, f_own, f_cell, f_doors, f_ways, f_seed]
  by_cases h1 : p1 < 3
  · simp only [if_pos h1, bs, ↓reduceIte]
    exact out2 hR
  by_cases h2 : 7 < p1
  · simp only [if_neg h1, if_pos h2, bs, ↓reduceIte]
    exact out2 hR
  obtain ⟨t, ht, rfl⟩ := nI_of (nn_lt h1 (by decide))
  by_cases h3 : nI t < nI n
  · simp only [if_neg h1, if_neg h2, if_pos h3, bs, one0, ↓reduceIte]
    rw [if_neg (fun q => by
      have a := (nI_ltI (by omega) (by omega)).mp h3
      have b := (nI_leI (by omega) (by omega)).mp q
      omega)]
    exact out2 hR
  · have hnt : n ≤ t := by
      rcases Nat.lt_or_ge t n with q | q
      · exact absurd (nI_lt q (by omega)) h3
      · exact q
    have ht7 : t ≤ 7 := by
      rcases Nat.lt_or_ge 7 t with q | q
      · exact absurd (nI_lt (a := 7) q (by omega)) h2
      · exact q
    simp only [if_neg h1, if_neg h2, if_neg h3, bs, one0, ↓reduceIte]
    rw [if_pos (nI_le hnt (by omega)), es_side, fs_n]
    have h' : HI t c k w l d f wm hr b ch := HI.mk' ⟨⟨by omega, ht7⟩, h.hp.2⟩ h.hc (fun i hi => ⟨(h.m hi).1, (h.m hi).2.1, by
      obtain ⟨a, b⟩ := (h.m hi).2.2
      exact ⟨by omega, by omega⟩⟩) h.hch (fun i hi => h.z hi)
    exact ⟨_, _, _, rfl, rfl, rel_now h' hX (Nat.le_refl _)⟩
theorem c_put (hR : Rel S M) : Out (fX4_put p1 p2 S) (fX5_put p1 p2 M) := by
  obtain ⟨n, c, k, w, l, d, f, wm, hr, b, ch, sd, P, Q, hx, rfl, h, hX⟩ := hR
  have hR := rel_s (Q := Q) hx h hX
  have hc := h.hc
  unfold fX4_put fX5_put fX4_put_j19 fX5_put_j16
  rcases mote_cases (n := n) (k := k) (w := w) (l := l) (d := d) (f := f) (wm := wm) (hr := hr) (b := b) (ch := ch) (sd := sd) (P := P) (Q := Q) p1 hx hc with ⟨a, a'⟩ | ⟨m, hm, rfl, a, a'⟩
  · rw [a, a']
    simp only [bs, ↓reduceIte]
    exact out2 hR
  rw [a, a', hx]
  simp only [bs, one0, ↓reduceIte]
  rcases cell_cases (c := c) (k := k) (w := w) (l := l) (d := d) (f := f) (wm := wm) (hr := hr) (b := b) (ch := ch) (sd := sd) (P := P) (Q := Q) p2 h.hp.1.1 h.hp.1.2 with ⟨a, a'⟩ | ⟨x, hC, rfl, a, a'⟩
  · rw [a, a']
    simp only [bs, ↓reduceIte]
    exact out2 hR
  rw [a, a']
  simp only [bs, one0, ↓reduceIte, u_gd (show m < 10 by omega) (show 10 < 2 ^ 31 by decide), u_ix (show m < 2 ^ 31 by omega), e_side, e_count, e_kind, e_weight, e_cell, e_doors, e_fan, e_warm, e_hour, e_beam, e_chance, e_seed, f_n, f_motes, f_kind, f_own, f_cell, f_doors, f_ways, f_seed]
  rw [u_un, es_cell, fs_cell]
  have h' : HI n c k w (un l m x) d f wm hr b ch := h.cells (fun i hi => by
    unfold un
    split
    · exact hC
    · exact (h.m hi).2.2) (fun i hi => if_neg (by omega))
  exact ⟨_, _, _, rfl, rfl, rel_now h' hX (Nat.le_refl _)⟩
theorem x_add {a q x : Nat} (hc : c < 10) : fX1_add (nI a) (nI q) (nI x) (eH n c k w l d f wm hr b ch sd) = some (eH n (c + 1) (un k c a) (un w c q) (un l c x) d f wm hr b ch sd) := by
  unfold fX1_add fX1_hasRoom
  simp only [e_side, e_count, e_kind, e_weight, e_cell, e_doors, e_fan, e_warm, e_hour, e_beam, e_chance, e_seed]
  rw [if_neg (show ¬ (10 : Int32) ≤ nI c from nI_ge (a := c) (b := 10) hc (by omega))]
  simp only [bs, one0, ↓reduceIte, u_gd hc (show 10 < 2 ^ 31 by decide), u_ix (show c < 2 ^ 31 by omega), u_un, es_kind, es_weight, es_cell, e_side, e_count, e_kind, e_weight, e_cell, e_doors, e_fan, e_warm, e_hour, e_beam, e_chance, e_seed, nI_1, es_count]
theorem m_new {a q x : Nat} (hc : c < 10) : fX5_newMote (nI a) (nI q) (nI x) (eM n c k w l d f wm hr b ch sd P Q) = some (nI c, eM n (c + 1) (un k c a) (un w c q) (un l c x) d f wm hr b ch sd P Q) := by
  unfold fX5_newMote
  simp only [bs, f_n, f_motes, f_kind, f_own, f_cell, f_doors, f_ways, f_seed, u_gd hc (show 10 < 2 ^ 31 by decide), u_ix (show c < 2 ^ 31 by omega), u_un, fs_kind, fs_own, fs_cell, nI_1, fs_motes]
theorem HI.add {a q x : Nat} (h : HI n c k w l d f wm hr b ch) (hc : c < 10) (ha : a ≤ 5) (hq : q ≤ 9) (hx : isC n x) : HI n (c + 1) (un k c a) (un w c q) (un l c x) d f wm hr b ch := HI.mk' h.hp (by omega) (fun i hi => by
    unfold un
    by_cases e : i = c
    · rw [if_pos e, if_pos e, if_pos e]
      exact ⟨ha, hq, hx⟩
    · rw [if_neg e, if_neg e, if_neg e]
      exact h.m (by omega)) h.hch (fun i hi => by
    unfold un
    rw [if_neg (by omega), if_neg (by omega), if_neg (by omega)]
    exact h.z hi)
theorem c_mote (hR : Rel S M) : Out (fX4_mote p1 p2 p3 S) (fX5_mote p1 p2 p3 M) := by
  obtain ⟨n, c, k, w, l, d, f, wm, hr, b, ch, sd, P, Q, hx, rfl, h, hX⟩ := hR
  have hR := rel_s (Q := Q) hx h hX
  have hc := h.hc
  unfold fX4_mote fX5_mote fX4_mote_j28 fX5_mote_j27
  rcases kind_cases p1 with ⟨a, a'⟩ | ⟨q, hq, rfl, a, a'⟩
  · rw [a, a']
    simp only [bs, ↓reduceIte]
    exact out2 hR
  rw [a, a']
  simp only [bs, one0, ↓reduceIte]
  rcases wi_cases (N := 9) (9 : Int32) p2 rfl (by decide) with ⟨e, h1 | ⟨h1, h2, h3⟩⟩ | ⟨z, hz, rfl, h1, h2, h3, e⟩
  · rw [e, if_pos h1]
    simp only [bs, ↓reduceIte]
    exact out2 hR
  · rw [e, if_neg h1, if_pos h2]
    simp only [bs, ↓reduceIte]
    exact out2 hR
  rw [e, if_neg h1, if_neg h2, hx]
  simp only [bs, one0, ↓reduceIte]
  rcases cell_cases (c := c) (k := k) (w := w) (l := l) (d := d) (f := f) (wm := wm) (hr := hr) (b := b) (ch := ch) (sd := sd) (P := P) (Q := Q) p3 h.hp.1.1 h.hp.1.2 with ⟨a, a'⟩ | ⟨x, hC, rfl, a, a'⟩
  · rw [a, a']
    simp only [bs, ↓reduceIte]
    exact out2 hR
  rw [a, a']
  simp only [bs, one0, ↓reduceIte, f_motes]
  unfold fX1_hasRoom
  rw [e_count]
  by_cases hc9 : c = 10
  · rw [if_pos (show (10 : Int32) ≤ nI c from nI_le (a := 10) (b := c) (by omega) (by omega)), if_pos (show nI c = (10 : Int32) by rw [hc9]; rfl)]
    simp only [bs, ↓reduceIte]
    exact out6 hR
  · rw [if_neg (show ¬ (10 : Int32) ≤ nI c from nI_ge (a := c) (b := 10) (by omega) (by omega)), if_neg (show ¬ nI c = (10 : Int32) from fun e => hc9 ((nI_eq (a := c) (b := 10) (by omega) (by omega)).mp e))]
    simp only [bs, one0, ↓reduceIte]
    rw [x_add (by omega), m_new (by omega)]
    simp only [bs, e_side, e_count, e_kind, e_weight, e_cell, e_doors, e_fan, e_warm, e_hour, e_beam, e_chance, e_seed]
    rw [nI_pred]
    exact ⟨_, _, _, rfl, rfl, rel_now (h.add (by omega) hq hz hC) hX (by omega)⟩
theorem dbits : ∀ d, d < 16 → ∀ r, r < 4 → (nI d ||| jshl (1 : Int32) (nI r) = nI (d ||| 2 ^ r) ∧ d ||| 2 ^ r < 16) ∧ (nI d &&& (jshl (1 : Int32) (nI r) ^^^ cI (-1)) = nI (d &&& (15 - 2 ^ r)) ∧ d &&& (15 - 2 ^ r) < 16) := by decide +kernel
def dset (d r : Nat) (o : Int32) : Nat := if o = 0 then d &&& (15 - 2 ^ r) else d ||| 2 ^ r
theorem dset_lt {r : Nat} {o : Int32} (hd : d < 16) (hr : r < 4) : dset d r o < 16 := by
  unfold dset
  split
  · exact (dbits d hd r hr).2.2
  · exact (dbits d hd r hr).1.2
theorem x_sd {r : Nat} {o : Int32} (hd : d < 16) (hr' : r < 4) : fX1_setDoor (nI r) o (eH n c k w l d f wm hr b ch sd) = some (eH n c k w l (dset d r o) f wm hr b ch sd) := by
  unfold fX1_setDoor fX1_setDoor_j26 dset
  simp only [e_side, e_count, e_kind, e_weight, e_cell, e_doors, e_fan, e_warm, e_hour, e_beam, e_chance, e_seed]
  rw [(dbits d hd r hr').1.1, (dbits d hd r hr').2.1]
  by_cases e : o = 0
  · rw [if_pos e, if_pos e, es_doors]
  · rw [if_neg e, if_neg e, es_doors]
theorem m_op {r : Nat} {o : Int32} (hd : d < 16) (hr' : r < 4) : fX5_opens (nI r) o (eM n c k w l d f wm hr b ch sd P Q) = some (eM n c k w l (dset d r o) f wm hr b ch sd P Q) := by
  unfold fX5_opens fX5_opens_j26 dset
  simp only [f_n, f_motes, f_kind, f_own, f_cell, f_doors, f_ways, f_seed]
  rw [(dbits d hd r hr').1.1, (dbits d hd r hr').2.1]
  by_cases e : o = 0
  · rw [if_pos e, if_pos e, fs_doors]
  · rw [if_neg e, if_neg e, fs_doors]
theorem c_door (hR : Rel S M) : Out (fX4_door p1 p2 S) (fX5_door p1 p2 M) := by
  obtain ⟨n, c, k, w, l, d, f, wm, hr, b, ch, sd, P, Q, hx, rfl, h, hX⟩ := hR
  have hR := rel_s (Q := Q) hx h hX
  have hd := h.hp.2.1
  unfold fX4_door fX5_door fX4_door_j9
  rcases wi_cases (N := 3) (3 : Int32) p1 rfl (by decide) with ⟨e, h1 | ⟨h1, h2, h3⟩⟩ | ⟨r, hr', rfl, h1, h2, h3, e⟩
  · rw [e, if_pos h1]
    simp only [bs, ↓reduceIte]
    exact out2 hR
  · obtain ⟨j, hj, rfl⟩ := nI_of h1
    have : 3 < j := by
      rcases Nat.lt_or_ge 3 j with q | q
      · exact q
      · exact absurd (nI_le (a := j) (b := 3) q (by omega)) h3
    rw [e, if_neg h1, if_neg (show ¬ nI j < (4 : Int32) from nI_nlt (a := j) (b := 4) (by omega) (by omega))]
    simp only [bs, ↓reduceIte]
    exact out2 hR
  rw [e, if_neg h1, if_pos (show nI r < (4 : Int32) from nI_lt (a := r) (b := 4) (by omega) (by omega)), hx]
  simp only [bs, one0, ↓reduceIte]
  rw [x_sd hd (by omega), m_op hd (by omega)]
  simp only [bs, e_doors, f_doors]
  exact ⟨_, _, _, rfl, rfl, rel_now (h.par ⟨h.hp.1, dset_lt hd (by omega), h.hp.2.2⟩) hX (Nat.le_refl _)⟩
theorem c_tell (hR : Rel S M) : Out (fX4_tell p1 p2 S) (fX5_tell p1 p2 M) := by
  obtain ⟨n, c, k, w, l, d, f, wm, hr, b, ch, sd, P, Q, hx, rfl, h, hX⟩ := hR
  have hR := rel_s (Q := Q) hx h hX
  obtain ⟨hn, hd, hf, hw, hh, hb⟩ := h.hp
  have bad : ¬ (p1 = 0 ∨ p1 = 1 ∨ p1 = 2 ∨ p1 = 3 ∨ p1 = 4) → fX5_within p1 (0 : Int32) (4 : Int32) = some 0 → Out (fX4_tell p1 p2 S) (fX5_tell p1 p2 (eM n c k w l d f wm hr b ch sd P Q)) := by
    intro z e
    unfold fX4_tell fX5_tell fX5_tell_j21 fX1_mayTell fX1_mostTold
    rw [e]
    simp only [bs, ↓reduceIte]
    rw [if_neg (fun q => z (Or.inl q)), if_neg (fun q => z (Or.inr (Or.inl q))), if_neg (fun q => z (Or.inr (Or.inr (Or.inl q)))), if_neg (fun q => z (Or.inr (Or.inr (Or.inr (Or.inl q))))), if_neg (fun q => z (Or.inr (Or.inr (Or.inr (Or.inr q)))))]
    simp only [bs]
    by_cases h1 : p2 < 0
    · rw [if_pos h1]
      simp only [bs, ↓reduceIte]
      exact out2 hR
    · obtain ⟨j, hj, rfl⟩ := nI_of h1
      rw [if_neg h1, if_pos (show cI (-1) < nI j by
        apply Int32.lt_iff_toInt_lt.mpr
        rw [nI_toInt hj, show (cI (-1)).toInt = -1 by decide]
        omega)]
      simp only [bs, ↓reduceIte]
      exact out2 hR
  rcases wi_cases (N := 4) (4 : Int32) p1 rfl (by decide) with ⟨e, h1 | ⟨h1, h2, h3⟩⟩ | ⟨t, ht, rfl, h1, h2, h3, e⟩
  · refine bad (fun z => ?_) e
    rcases z with rfl | rfl | rfl | rfl | rfl <;> revert h1 <;> decide
  · refine bad (fun z => ?_) e
    rcases z with rfl | rfl | rfl | rfl | rfl <;> revert h2 <;> decide
  clear bad
  unfold fX4_tell fX5_tell fX5_tell_j21 fX1_mayTell fX1_mostTold fX5_highest fX1_told fX1_becomes
  rw [e, hx]
  simp only [bs, one0, ↓reduceIte, e_side, e_count, e_kind, e_weight, e_cell, e_doors, e_fan, e_warm, e_hour, e_beam, e_chance, e_seed, u_gd (show t < 5 by omega) (show 5 < 2 ^ 31 by decide), u_ix (show t < 2 ^ 31 by omega), f_ways]
  have ht5 : t = 0 ∨ t = 1 ∨ t = 2 ∨ t = 3 ∨ t = 4 := by omega
  rcases ht5 with rfl | rfl | rfl | rfl | rfl
  · simp (decide := true) only [↓reduceIte, bs, wy_g0]
    rcases wi_cases (N := 4) (4 : Int32) p2 rfl (by decide) with ⟨e, h1 | ⟨h1, h2, h3⟩⟩ | ⟨v, hv, rfl, h1, h2, h3, e⟩
    · rw [e, if_pos h1]
      simp only [bs, ↓reduceIte]
      exact out2 hR
    · rw [e, if_neg h1, if_pos h2]
      simp only [bs, ↓reduceIte]
      exact out2 hR
    · rw [e, if_neg h1, if_neg h2, wy_s0, fs_ways, es_fan]
      exact ⟨_, _, _, rfl, rfl, rel_now (h.par ⟨hn, hd, hv, hw, hh, hb⟩) hX (Nat.le_refl _)⟩
  · simp (decide := true) only [↓reduceIte, bs, wy_g1]
    rcases wi_cases (N := 9) (9 : Int32) p2 rfl (by decide) with ⟨e, h1 | ⟨h1, h2, h3⟩⟩ | ⟨v, hv, rfl, h1, h2, h3, e⟩
    · rw [e, if_pos h1]
      simp only [bs, ↓reduceIte]
      exact out2 hR
    · rw [e, if_neg h1, if_pos h2]
      simp only [bs, ↓reduceIte]
      exact out2 hR
    · rw [e, if_neg h1, if_neg h2, wy_s1, fs_ways, es_warm]
      exact ⟨_, _, _, rfl, rfl, rel_now (h.par ⟨hn, hd, hf, hv, hh, hb⟩) hX (Nat.le_refl _)⟩
  · simp (decide := true) only [↓reduceIte, bs, wy_g2]
    rcases wi_cases (N := 999) (999 : Int32) p2 rfl (by decide) with ⟨e, h1 | ⟨h1, h2, h3⟩⟩ | ⟨v, hv, rfl, h1, h2, h3, e⟩
    · rw [e, if_pos h1]
      simp only [bs, ↓reduceIte]
      exact out2 hR
    · rw [e, if_neg h1, if_pos h2]
      simp only [bs, ↓reduceIte]
      exact out2 hR
    · rw [e, if_neg h1, if_neg h2, wy_s2, fs_ways, es_hour]
      exact ⟨_, _, _, rfl, rfl, rel_now (h.par ⟨hn, hd, hf, hw, hv, hb⟩) hX (Nat.le_refl _)⟩
  · simp (decide := true) only [↓reduceIte, bs, wy_g3]
    rcases wi_cases (N := 6) (6 : Int32) p2 rfl (by decide) with ⟨e, h1 | ⟨h1, h2, h3⟩⟩ | ⟨v, hv, rfl, h1, h2, h3, e⟩
    · rw [e, if_pos h1]
      simp only [bs, ↓reduceIte]
      exact out2 hR
    · rw [e, if_neg h1, if_pos h2]
      simp only [bs, ↓reduceIte]
      exact out2 hR
    · rw [e, if_neg h1, if_neg h2, wy_s3, fs_ways, es_beam]
      exact ⟨_, _, _, rfl, rfl, rel_now (h.par ⟨hn, hd, hf, hw, hh, hv⟩) hX (Nat.le_refl _)⟩
  · simp (decide := true) only [↓reduceIte, bs, wy_g4]
    rcases wi_cases (N := 12) (12 : Int32) p2 rfl (by decide) with ⟨e, h1 | ⟨h1, h2, h3⟩⟩ | ⟨v, hv, rfl, h1, h2, h3, e⟩
    · rw [e, if_pos h1]
      simp only [bs, ↓reduceIte]
      exact out2 hR
    · rw [e, if_neg h1, if_pos h2]
      simp only [bs, ↓reduceIte]
      exact out2 hR
    · rw [e, if_neg h1, if_neg h2, wy_s4, fs_ways, es_chance]
      exact ⟨_, _, _, rfl, rfl, rel_now (HI.mk' h.hp h.hc (fun i hi => h.m hi) hv (fun i hi => h.z hi)) hX (Nat.le_refl _)⟩
theorem RX.tape {T : TapeT} {P' : PT} (hX : RX S P c) (e1 : p_holding P' = p_holding P) (e2 : p_rowLength P' = p_rowLength P) (e3 : p_refusals P' = p_refusals P) (e4 : p_imaged P' = p_imaged P) (e5 : p_old P' = p_old P) (e6 : p_rowOf P' = p_rowOf P) (hT : TapeR T P') : RX (xs_tape S T) P' c := by
  obtain ⟨h1, h2, h3, h4, h5⟩ := hX
  refine ⟨h1, ?_, hT, ?_, ?_⟩
  · unfold ShsR at h2 ⊢
    rw [e1, e2, e6]
    exact h2
  · unfold RefR at h4 ⊢
    rw [e3]
    exact h4
  · unfold KeptR at h5 ⊢
    rw [e4, e5]
    exact h5
theorem c_feed (hR : Rel S M) : Out (fX4_feed p1 S) (fX5_feed p1 M) := by
  obtain ⟨n, c, k, w, l, d, f, wm, hr, b, ch, sd, P, Q, hx, rfl, h, hX⟩ := hR
  have hR := rel_s (Q := Q) hx h hX
  obtain ⟨hB, z, hz, t1, t2⟩ := hX.2.2.1
  unfold fX4_feed fX5_feed fX4_feed_j11
  rcases wi_cases (N := 255) (255 : Int32) p1 rfl (by decide) with ⟨e, h1 | ⟨h1, h2, h3⟩⟩ | ⟨v, hv, rfl, h1, h2, h3, e⟩
  · rw [e, if_pos h1]
    simp only [bs, ↓reduceIte]
    exact out2 hR
  · rw [e, if_neg h1, if_neg h3]
    simp only [bs, ↓reduceIte]
    exact out2 hR
  rw [e, if_neg h1, if_pos h3, t1, f_taped, t2]
  simp only [bs, one0, ↓reduceIte]
  by_cases h250 : z = 250
  · rw [if_neg (show ¬ nI z < (250 : Int32) from nI_nlt (a := z) (b := 250) (by omega) (by omega)), if_pos (show nI z = (250 : Int32) by rw [h250]; rfl)]
    exact out6 hR
  · rw [if_pos (show nI z < (250 : Int32) from nI_lt (a := z) (b := 250) (by omega) (by omega)), if_neg (show ¬ nI z = (250 : Int32) from fun e => h250 ((nI_eq (a := z) (b := 250) (by omega) (by omega)).mp e))]
    unfold fX3_add
    rw [t1, if_neg (show ¬ (250 : Int32) ≤ nI z from nI_ge (a := z) (b := 250) (by omega) (by omega))]
    simp only [bs, u_gd (show z < 250 by omega) (show 250 < 2 ^ 31 by decide), u_ix (show z < 2 ^ 31 by omega)]
    rw [show t_size (ts_bytes (x_tape S) (upd (t_bytes (x_tape S)) z (nI v))) = nI z from t1, nI_1, fs_taped, f_tape, fs_tape, f_taped]
    refine ⟨_, _, _, rfl, rfl, rel_s (S := xs_tape S _) hx h (RX.tape hX rfl rfl rfl rfl rfl rfl ⟨fun i hi => ?_, z + 1, by omega, rfl, rfl⟩)⟩
    show upd (t_bytes (x_tape S)) z (nI v) i = upd (p_tape P) z (nI v) i
    by_cases e : i = z
    · subst e
      rw [pk_us, pk_us]
    · rw [pk_un e, pk_un e, hB i hi]
theorem c_wipe (hR : Rel S M) : Out (fX4_wipe S) (fX5_wipe M) := by
  obtain ⟨n, c, k, w, l, d, f, wm, hr, b, ch, sd, P, Q, hx, rfl, h, hX⟩ := hR
  obtain ⟨hB, z, hz, t1, t2⟩ := hX.2.2.1
  unfold fX4_wipe fX5_wipe
  rw [t1, f_taped, t2, fs_taped]
  exact ⟨_, _, _, rfl, rfl, rel_s (S := xs_tape S _) hx h (RX.tape hX rfl rfl rfl rfl rfl rfl ⟨hB, 0, by omega, rfl, rfl⟩)⟩
theorem c_seed (hR : Rel S M) : Out (fX4_seed p1 S) (fX5_seed p1 M) := by
  obtain ⟨n, c, k, w, l, d, f, wm, hr, b, ch, sd, P, Q, hx, rfl, h, hX⟩ := hR
  unfold fX4_seed fX5_seed
  rw [hx, e_seed, f_seed, es_seed, fs_seed]
  exact ⟨_, _, _, rfl, rfl, rel_now h hX (Nat.le_refl _)⟩
theorem c_lit (hR : Rel S M) : Out (fX4_lit p1 p2 S) (fX5_lit p1 p2 M) := by
  obtain ⟨n, c, k, w, l, d, f, wm, hr, b, ch, sd, P, Q, hx, rfl, h, hX⟩ := hR
  have hR := rel_s (Q := Q) hx h hX
  unfold fX4_lit fX5_lit fX4_lit_j22 fX5_lit_j19
  rw [x_look hx h hX.1.1, hx]
  rcases cell_cases (c := c) (k := k) (w := w) (l := l) (d := d) (f := f) (wm := wm) (hr := hr) (b := b) (ch := ch) (sd := sd) (P := P) (Q := Q) p1 h.hp.1.1 h.hp.1.2 with ⟨a, a'⟩ | ⟨x, hC, rfl, a, a'⟩
  · rw [a, a']
    simp only [bs, ↓reduceIte]
    exact out2 hR
  rw [a, a']
  simp only [bs, one0, ↓reduceIte]
  rcases wi_cases (N := 999) (999 : Int32) p2 rfl (by decide) with ⟨e, h1 | ⟨h1, h2, h3⟩⟩ | ⟨v, hv, rfl, h1, h2, h3, e⟩
  · rw [e, if_pos h1]
    simp only [bs, ↓reduceIte]
    exact out2 hR
  · rw [e, if_neg h1, if_neg h3]
    simp only [bs, ↓reduceIte]
    exact out2 hR
  have h' : HI n c k w l d f wm v b ch := h.par ⟨h.hp.1, h.hp.2.1, h.hp.2.2.1, h.hp.2.2.2.1, hv, h.hp.2.2.2.2.2⟩
  have h67 := isC_lt h.hp.1.2 hC
  rw [e, if_neg h1, if_pos h3, es_hour, xlit h'.hp hC, m_lit h.hp.1.1 h.hp.1.2 hv h.hp.2.2.2.2.2 (by omega)]
  unfold fX4_bit
  by_cases hl : lit n b v x
  · simp only [if_pos hl, bs, one0, ↓reduceIte]
    exact ⟨_, _, _, rfl, rfl, rel_q hx h hX h'.zh⟩
  · simp only [if_neg hl, bs, ↓reduceIte]
    exact ⟨_, _, _, rfl, rfl, rel_q hx h hX h'.zh⟩
theorem c_stirred (hR : Rel S M) : ∃ r, fX4_stirred S = some r ∧ fX5_stirred M = some r := by
  obtain ⟨n, c, k, w, l, d, f, wm, hr, b, ch, sd, P, Q, hx, rfl, h, hX⟩ := hR
  have hc := h.hc
  have q : ∀ (r j fu : Nat) (a : Int32), j + r = c → r < fu → ∃ y, fX4_stirred_L4 S fu a (nI j) = some y ∧ fX5_stirred_L4 (eM n c k w l d f wm hr b ch sd P Q) fu a (nI j) = some y := by
    intro r
    induction r with
    | zero =>
      intro j fu a e hf
      obtain rfl : j = c := by omega
      cases fu with
      | zero => omega
      | succ fu =>
        unfold fX4_stirred_L4 fX5_stirred_L4
        rw [hx]
        simp only [e_side, e_count, e_kind, e_weight, e_cell, e_doors, e_fan, e_warm, e_hour, e_beam, e_chance, e_seed, f_n, f_motes, f_kind, f_own, f_cell, f_doors, f_ways, f_seed]
        rw [if_pos (nI_le (Nat.le_refl _) (by omega)), if_pos (nI_le (Nat.le_refl _) (by omega))]
        exact ⟨_, rfl, rfl⟩
    | succ r ih =>
      intro j fu a e hf
      cases fu with
      | zero => omega
      | succ fu =>
        have hj : j < c := by omega
        unfold fX4_stirred_L4 fX5_stirred_L4 fX4_stirred_j58 fX5_stirred_j43
        rw [hx]
        simp only [e_side, e_count, e_kind, e_weight, e_cell, e_doors, e_fan, e_warm, e_hour, e_beam, e_chance, e_seed, f_n, f_motes, f_kind, f_own, f_cell, f_doors, f_ways, f_seed, u_gd (show j < 10 by omega) (show 10 < 2 ^ 31 by decide), u_ix (show j < 2 ^ 31 by omega)]
        rw [if_neg (nI_ge hj (by omega)), xn h.hp (h.m hj).1 (h.m hj).2.2, if_neg (nI_ge hj (by omega)), m_goes h.hp (h.m hj).1 (h.m hj).2.2]
        simp only [bs]
        rw [nI_1]
        split
        · exact ih (j + 1) fu a (by omega) (by omega)
        · exact ih (j + 1) fu _ (by omega) (by omega)
  exact q c 0 FU 0 (by omega) (by show c < 1100; omega)
theorem c_ofKind (hR : Rel S M) : Out (fX4_ofKind p1 S) (fX5_ofKind p1 M) := by
  obtain ⟨n, c, k, w, l, d, f, wm, hr, b, ch, sd, P, Q, hx, rfl, h, hX⟩ := hR
  have hR := rel_s (Q := Q) hx h hX
  have hc := h.hc
  have q : ∀ (r j fu : Nat) (a : Int32), j + r = c → r < fu → Out (fX4_ofKind_L18 p1 fu a (nI j) S) (fX5_ofKind_L20 p1 fu a (nI j) (eM n c k w l d f wm hr b ch sd P Q)) := by
    intro r
    induction r with
    | zero =>
      intro j fu a e hf
      obtain rfl : j = c := by omega
      cases fu with
      | zero => omega
      | succ fu =>
        unfold fX4_ofKind_L18 fX5_ofKind_L20
        rw [hx]
        simp only [e_side, e_count, e_kind, e_weight, e_cell, e_doors, e_fan, e_warm, e_hour, e_beam, e_chance, e_seed, f_n, f_motes, f_kind, f_own, f_cell, f_doors, f_ways, f_seed]
        rw [if_pos (nI_le (Nat.le_refl _) (by omega)), if_pos (nI_le (Nat.le_refl _) (by omega))]
        exact ⟨_, _, _, rfl, rfl, hR⟩
    | succ r ih =>
      intro j fu a e hf
      cases fu with
      | zero => omega
      | succ fu =>
        have hj : j < c := by omega
        unfold fX4_ofKind_L18 fX5_ofKind_L20 fX4_ofKind_j48 fX5_ofKind_j41 fX4_bit
        rw [hx]
        simp only [e_side, e_count, e_kind, e_weight, e_cell, e_doors, e_fan, e_warm, e_hour, e_beam, e_chance, e_seed, f_n, f_motes, f_kind, f_own, f_cell, f_doors, f_ways, f_seed, u_gd (show j < 10 by omega) (show 10 < 2 ^ 31 by decide), u_ix (show j < 2 ^ 31 by omega)]
        rw [if_neg (nI_ge hj (by omega)), if_neg (nI_ge hj (by omega)), nI_1]
        by_cases e : nI (k j) = p1
        · simp only [if_pos e, one0, ↓reduceIte, bs]
          exact ih (j + 1) fu _ (by omega) (by omega)
        · simp only [if_neg e, ↓reduceIte, bs]
          have := ih (j + 1) fu a (by omega) (by omega)
          rwa [show a + (0 : Int32) = a from Int32.add_zero a]
  unfold fX4_ofKind fX5_ofKind
  rcases kind_cases p1 with ⟨a, a'⟩ | ⟨q', hq, rfl, a, a'⟩
  · rw [a, a']
    simp only [bs, ↓reduceIte]
    exact out2 hR
  rw [a, a']
  simp only [bs, one0, ↓reduceIte]
  exact q c 0 FU 0 (by omega) (by show c < 1100; omega)
end C2
