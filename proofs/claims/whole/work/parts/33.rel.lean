/-! ===== pure layer: the relation of both, tests, refusals ===== -/
def Zh (T : HallT) : Prop := ∀ j, 10 ≤ j → h_kindOf T j = 0 ∧ h_weightOf T j = 0 ∧ h_cellOf T j = 0
def p_taped (P : PT) : Int32 := P.1
def p_tape (P : PT) : Nat → Int32 := P.2.1
def p_holding (P : PT) : Nat → Int32 := P.2.2.1
def p_rowLength (P : PT) : Nat → Int32 := P.2.2.2.1
def p_rowOf (P : PT) : Nat → Int64 := P.2.2.2.2.1
def p_refusals (P : PT) : Nat → Int32 := P.2.2.2.2.2.1
def p_imaged (P : PT) : Int32 := P.2.2.2.2.2.2.1
def p_old (P : PT) : Nat → Int32 := P.2.2.2.2.2.2.2
def ps_taped (P : PT) (v : Int32) : PT := (v, P.2)
def ps_tape (P : PT) (v : Nat → Int32) : PT := (P.1, v, P.2.2)
def ps_holding (P : PT) (v : Nat → Int32) : PT := (P.1, P.2.1, v, P.2.2.2)
def ps_rowLength (P : PT) (v : Nat → Int32) : PT := (P.1, P.2.1, P.2.2.1, v, P.2.2.2.2)
def ps_rowOf (P : PT) (v : Nat → Int64) : PT := (P.1, P.2.1, P.2.2.1, P.2.2.2.1, v, P.2.2.2.2.2)
def ps_refusals (P : PT) (v : Nat → Int32) : PT := (P.1, P.2.1, P.2.2.1, P.2.2.2.1, P.2.2.2.2.1, v, P.2.2.2.2.2.2)
def ps_imaged (P : PT) (v : Int32) : PT := (P.1, P.2.1, P.2.2.1, P.2.2.2.1, P.2.2.2.2.1, P.2.2.2.2.2.1, v, P.2.2.2.2.2.2.2)
def ps_old (P : PT) (v : Nat → Int32) : PT := (P.1, P.2.1, P.2.2.1, P.2.2.2.1, P.2.2.2.2.1, P.2.2.2.2.2.1, P.2.2.2.2.2.2.1, v)
/-- a shelf of the class beside the reference's -/
def ShR (s : ShT) (h len : Int32) (row : Nat → Int64) (c : Nat) : Prop := (sh_held s = 0 ∧ h = cI (-1)) ∨ (sh_held s = 1 ∧ (∃ st, st ≤ 4 ∧ sh_sort s = nI st ∧ h = nI st) ∧ (∃ sz, sz ≤ 40 ∧ sh_size s = nI sz ∧ len = nI sz) ∧ ∀ i, i < 40 → sh_elements s i = row i) ∨ (sh_held s = 2 ∧ ∃ m, m < c ∧ sh_number s = nI m ∧ h = nI (10 + m))
def OldR (o : Nat → Int32) (n c : Nat) (k w l : Nat → Nat) (d f wm hr b ch : Nat) (sd : Int32) : Prop := (∀ i, i < 10 → o i = nI (k i) ∧ o (10 + i) = nI (w i) ∧ o (20 + i) = nI (l i)) ∧ (o 30 = nI f ∧ o 31 = nI wm ∧ o 32 = nI hr ∧ o 33 = nI b ∧ o 34 = nI ch) ∧ o 35 = nI n ∧ o 36 = nI c ∧ o 37 = nI d ∧ o 38 = sd
def KeptR (S : XT) (P : PT) : Prop := (x_isKept S = 0 ∧ p_imaged P = 0) ∨ (x_isKept S = 1 ∧ p_imaged P = 1 ∧ ∃ (n c : Nat) (k w l : Nat → Nat) (d f wm hr b ch : Nat) (sd : Int32), x_kept S = eH n c k w l d f wm hr b ch sd ∧ HI n c k w l d f wm hr b ch ∧ OldR (p_old P) n c k w l d f wm hr b ch sd)
def TapeR (T : TapeT) (P : PT) : Prop := (∀ i, i < 250 → t_bytes T i = p_tape P i) ∧ ∃ z, z ≤ 250 ∧ t_size T = nI z ∧ p_taped P = nI z
def ShsR (S : XT) (P : PT) (c : Nat) : Prop := ∀ s, s < 8 → ShR (x_sh S s) (p_holding P s) (p_rowLength P s) (fun i => p_rowOf P (40 * s + i)) c
def RefR (S : XT) (P : PT) : Prop := ∀ i, i < 5 → x_refusals S i = p_refusals P (i + 2)
def ZR (S : XT) : Prop := Zh (x_trial S) ∧ Zh (x_kept S) ∧ ∀ i, i < 4 → Zh (d_deep (x_dr S) i)
def RX (S : XT) (P : PT) (c : Nat) : Prop := ZR S ∧ ShsR S P c ∧ TapeR (x_tape S) P ∧ RefR S P ∧ KeptR S P
def Rel (S : XT) (M : MT) : Prop := ∃ (n c : Nat) (k w l : Nat → Nat) (d f wm hr b ch : Nat) (sd : Int32) (P : PT) (Q : QT), x_now S = (eH n c k w l d f wm hr b ch sd) ∧ M = (eM n c k w l d f wm hr b ch sd P Q) ∧ HI n c k w l d f wm hr b ch ∧ RX S P c
def Out (ox : Option (Int32 × XT)) (om : Option (Int32 × MT)) : Prop := ∃ (r : Int32) (S : XT) (M : MT), ox = some (r, S) ∧ om = some (r, M) ∧ Rel S M
theorem cpk10 : cpk (0 : Int32) (0 : Int32) (10 : Int32) 10 10 = true := by decide
theorem cpa10 {f g : Nat → Int32} (h : ∀ j, 10 ≤ j → f j = g j) : cpa f g (0 : Int32) (0 : Int32) (10 : Int32) = f := by
  funext j
  show (if 0 ≤ j ∧ j < 0 + 10 then f (0 + (j - 0)) else g j) = f j
  by_cases q : j < 10
  · rw [if_pos ⟨by omega, by omega⟩]
    congr 1
    omega
  · rw [if_neg (by omega), h j (by omega)]
theorem x_place {T S : HallT} (hT : Zh T) (hS : Zh S) : fX1_takePlaces T S = some (hs_hour (hs_cellOf T (h_cellOf S)) (h_hour S)) := by
  unfold fX1_takePlaces
  rw [cpk10, cpa10 (fun j hj => by rw [(hT j hj).2.2, (hS j hj).2.2])]
  rfl
theorem bs {α β : Type} {a : α} {g : α → Option β} : (some a).bind g = g a := id rfl
theorem gt {α : Type} {o : Option α} : gd true o = o := id rfl
section A0
variable {t1 : Int32} {t2 : Int32} {t3 : Nat → Int32} {t4 : Nat → Int32} {t5 : Nat → Int32} {t6 : Int32} {t7 : Int32} {t8 : Int32} {t9 : Int32} {t10 : Int32} {t11 : Int32} {t12 : Int32}
theorem ag_side : h_side ((t1, t2, t3, t4, t5, t6, t7, t8, t9, t10, t11, t12) : HallT) = t1 := id rfl
theorem as_side {v : Int32} : hs_side ((t1, t2, t3, t4, t5, t6, t7, t8, t9, t10, t11, t12) : HallT) v = (v, t2, t3, t4, t5, t6, t7, t8, t9, t10, t11, t12) := id rfl
theorem ag_count : h_count ((t1, t2, t3, t4, t5, t6, t7, t8, t9, t10, t11, t12) : HallT) = t2 := id rfl
theorem as_count {v : Int32} : hs_count ((t1, t2, t3, t4, t5, t6, t7, t8, t9, t10, t11, t12) : HallT) v = (t1, v, t3, t4, t5, t6, t7, t8, t9, t10, t11, t12) := id rfl
theorem ag_kindOf : h_kindOf ((t1, t2, t3, t4, t5, t6, t7, t8, t9, t10, t11, t12) : HallT) = t3 := id rfl
theorem as_kindOf {v : Nat → Int32} : hs_kindOf ((t1, t2, t3, t4, t5, t6, t7, t8, t9, t10, t11, t12) : HallT) v = (t1, t2, v, t4, t5, t6, t7, t8, t9, t10, t11, t12) := id rfl
theorem ag_weightOf : h_weightOf ((t1, t2, t3, t4, t5, t6, t7, t8, t9, t10, t11, t12) : HallT) = t4 := id rfl
theorem as_weightOf {v : Nat → Int32} : hs_weightOf ((t1, t2, t3, t4, t5, t6, t7, t8, t9, t10, t11, t12) : HallT) v = (t1, t2, t3, v, t5, t6, t7, t8, t9, t10, t11, t12) := id rfl
theorem ag_cellOf : h_cellOf ((t1, t2, t3, t4, t5, t6, t7, t8, t9, t10, t11, t12) : HallT) = t5 := id rfl
theorem as_cellOf {v : Nat → Int32} : hs_cellOf ((t1, t2, t3, t4, t5, t6, t7, t8, t9, t10, t11, t12) : HallT) v = (t1, t2, t3, t4, v, t6, t7, t8, t9, t10, t11, t12) := id rfl
theorem ag_doors : h_doors ((t1, t2, t3, t4, t5, t6, t7, t8, t9, t10, t11, t12) : HallT) = t6 := id rfl
theorem as_doors {v : Int32} : hs_doors ((t1, t2, t3, t4, t5, t6, t7, t8, t9, t10, t11, t12) : HallT) v = (t1, t2, t3, t4, t5, v, t7, t8, t9, t10, t11, t12) := id rfl
theorem ag_fan : h_fan ((t1, t2, t3, t4, t5, t6, t7, t8, t9, t10, t11, t12) : HallT) = t7 := id rfl
theorem as_fan {v : Int32} : hs_fan ((t1, t2, t3, t4, t5, t6, t7, t8, t9, t10, t11, t12) : HallT) v = (t1, t2, t3, t4, t5, t6, v, t8, t9, t10, t11, t12) := id rfl
theorem ag_warmth : h_warmth ((t1, t2, t3, t4, t5, t6, t7, t8, t9, t10, t11, t12) : HallT) = t8 := id rfl
theorem as_warmth {v : Int32} : hs_warmth ((t1, t2, t3, t4, t5, t6, t7, t8, t9, t10, t11, t12) : HallT) v = (t1, t2, t3, t4, t5, t6, t7, v, t9, t10, t11, t12) := id rfl
theorem ag_hour : h_hour ((t1, t2, t3, t4, t5, t6, t7, t8, t9, t10, t11, t12) : HallT) = t9 := id rfl
theorem as_hour {v : Int32} : hs_hour ((t1, t2, t3, t4, t5, t6, t7, t8, t9, t10, t11, t12) : HallT) v = (t1, t2, t3, t4, t5, t6, t7, t8, v, t10, t11, t12) := id rfl
theorem ag_beam : h_beam ((t1, t2, t3, t4, t5, t6, t7, t8, t9, t10, t11, t12) : HallT) = t10 := id rfl
theorem as_beam {v : Int32} : hs_beam ((t1, t2, t3, t4, t5, t6, t7, t8, t9, t10, t11, t12) : HallT) v = (t1, t2, t3, t4, t5, t6, t7, t8, t9, v, t11, t12) := id rfl
theorem ag_chance : h_chance ((t1, t2, t3, t4, t5, t6, t7, t8, t9, t10, t11, t12) : HallT) = t11 := id rfl
theorem as_chance {v : Int32} : hs_chance ((t1, t2, t3, t4, t5, t6, t7, t8, t9, t10, t11, t12) : HallT) v = (t1, t2, t3, t4, t5, t6, t7, t8, t9, t10, v, t12) := id rfl
theorem ag_seed : h_seed ((t1, t2, t3, t4, t5, t6, t7, t8, t9, t10, t11, t12) : HallT) = t12 := id rfl
theorem as_seed {v : Int32} : hs_seed ((t1, t2, t3, t4, t5, t6, t7, t8, t9, t10, t11, t12) : HallT) v = (t1, t2, t3, t4, t5, t6, t7, t8, t9, t10, t11, v) := id rfl
end A0
theorem x_take {T S : HallT} (hT : Zh T) (hS : Zh S) : fX1_takeOver T S = some S := by
  obtain ⟨t1, t2, t3, t4, t5, t6, t7, t8, t9, t10, t11, t12⟩ := T
  obtain ⟨s1, s2, s3, s4, s5, s6, s7, s8, s9, s10, s11, s12⟩ := S
  have e1 : cpa s3 t3 (0 : Int32) (0 : Int32) (10 : Int32) = s3 := cpa10 (fun j hj => ((hS j hj).1).trans ((hT j hj).1).symm)
  have e2 : cpa s4 t4 (0 : Int32) (0 : Int32) (10 : Int32) = s4 := cpa10 (fun j hj => ((hS j hj).2.1).trans ((hT j hj).2.1).symm)
  have e3 : cpa s5 t5 (0 : Int32) (0 : Int32) (10 : Int32) = s5 := cpa10 (fun j hj => ((hS j hj).2.2).trans ((hT j hj).2.2).symm)
  unfold fX1_takeOver fX1_takePlaces
  simp only [bs, gt, cpk10, ag_side, as_side, ag_count, as_count, ag_kindOf, as_kindOf, ag_weightOf, as_weightOf, ag_cellOf, as_cellOf, ag_doors, as_doors, ag_fan, as_fan, ag_warmth, as_warmth, ag_hour, as_hour, ag_beam, as_beam, ag_chance, as_chance, ag_seed, as_seed, e1, e2, e3]
section R0
variable {n c : Nat} {k w l : Nat → Nat} {d f wm hr b ch : Nat} {sd : Int32} {P : PT} {Q : QT} {S : XT} {M : MT} {p : Int32}
theorem HI.zh (h : HI n c k w l d f wm hr b ch) : Zh (eH n c k w l d f wm hr b ch sd) := fun j hj => by
  obtain ⟨a, b, c⟩ := h.z hj
  refine ⟨?_, ?_, ?_⟩
  · show nI (k j) = 0
    rw [a]
    rfl
  · show nI (w j) = 0
    rw [b]
    rfl
  · show nI (l j) = 0
    rw [c]
    rfl
theorem x_look (hx : x_now S = (eH n c k w l d f wm hr b ch sd)) (h : HI n c k w l d f wm hr b ch) (hZ : Zh (x_trial S)) : fX1_takeOver (x_trial S) (x_now S) = some (eH n c k w l d f wm hr b ch sd) := by
  rw [hx]
  exact x_take hZ h.zh
/-- a question changes the trial hall at most, and the reference's scratch -/
theorem rel_q {T : HallT} (hx : x_now S = (eH n c k w l d f wm hr b ch sd)) (h : HI n c k w l d f wm hr b ch) (hR : RX S P c) (hT : Zh T) : Rel (xs_trial S T) (eM n c k w l d f wm hr b ch sd P Q) :=
  ⟨n, c, k, w, l, d, f, wm, hr, b, ch, sd, P, Q, hx, rfl, h, ⟨hT, hR.1.2⟩, hR.2.1, hR.2.2.1, hR.2.2.2.1, hR.2.2.2.2⟩
theorem rel_s (hx : x_now S = (eH n c k w l d f wm hr b ch sd)) (h : HI n c k w l d f wm hr b ch) (hR : RX S P c) : Rel S (eM n c k w l d f wm hr b ch sd P Q) := ⟨n, c, k, w, l, d, f, wm, hr, b, ch, sd, P, Q, hx, rfl, h, hR⟩
/-! tests -/
theorem in3 {N : Nat} (B p : Int32) (hB : B = nI N) (hN : N < 2 ^ 31) : p < 0 ∨ (¬ p < 0 ∧ B < p ∧ ¬ p ≤ B) ∨ ∃ t, t ≤ N ∧ p = nI t ∧ ¬ p < 0 ∧ ¬ B < p ∧ p ≤ B := by
  subst hB
  by_cases h : p < 0
  · exact Or.inl h
  · obtain ⟨j, hj, rfl⟩ := nI_of h
    by_cases q : j ≤ N
    · exact Or.inr (Or.inr ⟨j, q, rfl, h, nI_nlt q hN, nI_le q hN⟩)
    · exact Or.inr (Or.inl ⟨h, nI_lt (by omega) hj, nI_ge (by omega) hj⟩)
theorem gb0 {α : Type} {o : Option α} : gd (isb (0 : Int32)) o = o := id rfl
theorem gb1 {α : Type} {o : Option α} : gd (isb (1 : Int32)) o = o := id rfl
theorem wi_cases {N : Nat} (B p : Int32) (hB : B = nI N) (hN : N < 2 ^ 31) : (fX5_within p (0 : Int32) B = some 0 ∧ (p < 0 ∨ (¬ p < 0 ∧ B < p ∧ ¬ p ≤ B))) ∨ ∃ t, t ≤ N ∧ p = nI t ∧ ¬ p < 0 ∧ ¬ B < p ∧ p ≤ B ∧ fX5_within p (0 : Int32) B = some 1 := by
  unfold fX5_within
  rcases in3 B p hB hN with h | ⟨h1, h2, h3⟩ | ⟨t, ht, e, h1, h2, h3⟩
  · exact Or.inl ⟨by rw [if_pos h], Or.inl h⟩
  · exact Or.inl ⟨by rw [if_neg h1, if_pos h2], Or.inr ⟨h1, h2, h3⟩⟩
  · exact Or.inr ⟨t, ht, e, h1, h2, h3, by rw [if_neg h1, if_neg h2]⟩
theorem time_cases (p : Int32) : (fX4_isTime p = some 0 ∧ fX5_isTime p = some 0) ∨ ∃ t, t ≤ 24 ∧ p = nI t ∧ fX4_isTime p = some 1 ∧ fX5_isTime p = some 1 := by
  unfold fX4_isTime fX5_isTime
  rcases wi_cases (N := 24) (24 : Int32) p rfl (by decide) with ⟨e, h | ⟨h1, h2, h3⟩⟩ | ⟨t, ht, rfl, h1, h2, h3, e⟩
  · exact Or.inl ⟨by rw [if_pos h], by rw [e]; rfl⟩
  · exact Or.inl ⟨by rw [if_neg h1, if_pos h2], by rw [e]; rfl⟩
  · exact Or.inr ⟨t, ht, rfl, by rw [if_neg h1, if_neg h2], by rw [e]; rfl⟩
theorem shelf_cases (p : Int32) : (fX4_isShelf p = some 0 ∧ fX5_isShelf p = some 0) ∨ ∃ s, s < 8 ∧ p = nI s ∧ fX4_isShelf p = some 1 ∧ fX5_isShelf p = some 1 := by
  unfold fX4_isShelf fX5_isShelf
  rcases wi_cases (N := 7) (7 : Int32) p rfl (by decide) with ⟨e, h | ⟨h1, h2, h3⟩⟩ | ⟨t, ht, rfl, h1, h2, h3, e⟩
  · exact Or.inl ⟨by rw [if_pos h], by rw [e]; rfl⟩
  · refine Or.inl ⟨?_, by rw [e]; rfl⟩
    obtain ⟨j, hj, rfl⟩ := nI_of h1
    have : 7 < j := by
      rcases Nat.lt_or_ge 7 j with q | q
      · exact q
      · exact absurd (nI_le (a := j) (b := 7) q (by omega)) h3
    rw [if_neg h1, if_pos (show (8 : Int32) ≤ nI j from nI_le (a := 8) (b := j) (by omega) (by omega))]
  · exact Or.inr ⟨t, by omega, rfl, by rw [if_neg h1, if_neg (show ¬ (8 : Int32) ≤ nI t from nI_ge (a := t) (b := 8) (by omega) (by omega))], by rw [e]; rfl⟩
theorem count_cases (p : Int32) : (fX4_isElementCount p = some 0 ∧ fX5_within p (0 : Int32) (40 : Int32) = some 0) ∨ ∃ t, t ≤ 40 ∧ p = nI t ∧ fX4_isElementCount p = some 1 ∧ fX5_within p (0 : Int32) (40 : Int32) = some 1 := by
  unfold fX4_isElementCount
  rcases wi_cases (N := 40) (40 : Int32) p rfl (by decide) with ⟨e, h | ⟨h1, h2, h3⟩⟩ | ⟨t, ht, rfl, h1, h2, h3, e⟩
  · exact Or.inl ⟨by rw [if_pos h], e⟩
  · exact Or.inl ⟨by rw [if_neg h1, if_pos h2], e⟩
  · exact Or.inr ⟨t, ht, rfl, by rw [if_neg h1, if_neg h2], e⟩
theorem kind_cases (p : Int32) : (fX4_isKind p = some 0 ∧ fX5_within p (0 : Int32) (5 : Int32) = some 0) ∨ ∃ t, t ≤ 5 ∧ p = nI t ∧ fX4_isKind p = some 1 ∧ fX5_within p (0 : Int32) (5 : Int32) = some 1 := by
  unfold fX4_isKind
  rcases wi_cases (N := 5) (5 : Int32) p rfl (by decide) with ⟨e, h | ⟨h1, h2, h3⟩⟩ | ⟨t, ht, rfl, h1, h2, h3, e⟩
  · exact Or.inl ⟨by rw [if_pos h], e⟩
  · exact Or.inl ⟨by rw [if_neg h1, if_pos h2], e⟩
  · exact Or.inr ⟨t, ht, rfl, by rw [if_neg h1, if_neg h2], e⟩
theorem mote_cases (p : Int32) (hx : x_now S = (eH n c k w l d f wm hr b ch sd)) (hc : c ≤ 10) : (fX4_isMote p S = some 0 ∧ fX5_isMote p (eM n c k w l d f wm hr b ch sd P Q) = some 0) ∨ ∃ m, m < c ∧ p = nI m ∧ fX4_isMote p S = some 1 ∧ fX5_isMote p (eM n c k w l d f wm hr b ch sd P Q) = some 1 := by
  unfold fX4_isMote fX5_isMote fX5_within
  rw [hx]
  simp only [e_side, e_count, e_kind, e_weight, e_cell, e_doors, e_fan, e_warm, e_hour, e_beam, e_chance, e_seed, f_n, f_motes, f_kind, f_own, f_cell, f_doors, f_ways, f_seed]
  by_cases h : p < 0
  · exact Or.inl ⟨by rw [if_pos h], by rw [if_pos h]; rfl⟩
  · obtain ⟨j, hj, rfl⟩ := nI_of h
    by_cases q : j < c
    · refine Or.inr ⟨j, q, rfl, ?_, ?_⟩
      · rw [if_neg h, if_neg (nI_ge q (by omega))]
      · rw [if_neg h, show nI c - (1 : Int32) = nI (c - 1) from pk_sub (a := c) (b := 1) (by omega), if_neg (nI_nlt (by omega) (by omega))]
        rfl
    · refine Or.inl ⟨?_, ?_⟩
      · rw [if_neg h, if_pos (nI_le (by omega) (by omega))]
      · rw [if_neg h]
        by_cases h0 : c = 0
        · subst h0
          have : nI 0 - (1 : Int32) < nI j := by
            apply Int32.lt_iff_toInt_lt.mpr
            rw [nI_toInt hj, show (nI 0 - (1 : Int32)).toInt = -1 by decide]
            omega
          rw [if_pos this]
          rfl
        · rw [show nI c - (1 : Int32) = nI (c - 1) from pk_sub (a := c) (b := 1) (by omega), if_pos (nI_lt (by omega) (by omega))]
          rfl
theorem cell_cases (p : Int32) (hn : 6 ≤ n) (hn' : n ≤ 7) : (fX1_isCell p (eH n c k w l d f wm hr b ch sd) = some 0 ∧ fX5_isCell p (eM n c k w l d f wm hr b ch sd P Q) = some 0) ∨ ∃ x, isC n x ∧ p = nI x ∧ fX1_isCell p (eH n c k w l d f wm hr b ch sd) = some 1 ∧ fX5_isCell p (eM n c k w l d f wm hr b ch sd P Q) = some 1 := by
  unfold fX1_isCell fX5_isCell
  simp only [e_side, e_count, e_kind, e_weight, e_cell, e_doors, e_fan, e_warm, e_hour, e_beam, e_chance, e_seed, f_n, f_motes, f_kind, f_own, f_cell, f_doors, f_ways, f_seed]
  by_cases h : p < 0
  · exact Or.inl ⟨by rw [if_pos h], by rw [if_pos h]⟩
  · obtain ⟨j, hj, rfl⟩ := nI_of h
    rw [u_div10 hj, u_irm10 hj, if_neg h]
    rw [u_if (nI_leI (a := n) (b := j / 10) (by omega) (by omega)), u_if (nI_leI (a := n) (b := j % 10) (by omega) (by omega))]
    by_cases q1 : n ≤ j / 10
    · exact Or.inl ⟨by rw [if_pos q1], by rw [if_pos q1]⟩
    · by_cases q2 : n ≤ j % 10
      · exact Or.inl ⟨by rw [if_neg q1, if_pos q2], by rw [if_neg q1, if_pos q2]⟩
      · exact Or.inr ⟨j, ⟨by omega, by omega⟩, rfl, by rw [if_neg q1, if_neg q2], by rw [if_neg q1, if_neg q2]⟩
/-! refusals -/
theorem f_refusals : m_refusals (eM n c k w l d f wm hr b ch sd P Q) = p_refusals P := id rfl
theorem fs_refusals {v : Nat → Int32} : ms_refusals (eM n c k w l d f wm hr b ch sd P Q) v = eM n c k w l d f wm hr b ch sd (ps_refusals P v) Q := id rfl
theorem rel_ref {v v' : Nat → Int32} (hx : x_now S = (eH n c k w l d f wm hr b ch sd)) (h : HI n c k w l d f wm hr b ch) (hR : RX S P c) (hv : ∀ i, i < 5 → v i = v' (i + 2)) : Rel (xs_refusals S v) (eM n c k w l d f wm hr b ch sd (ps_refusals P v') Q) :=
  ⟨n, c, k, w, l, d, f, wm, hr, b, ch, sd, ps_refusals P v', Q, hx, rfl, h, hR.1, hR.2.1, hR.2.2.1, hv, hR.2.2.2.2⟩
theorem f_from : m_from (eM n c k w l d f wm hr b ch sd P Q) = Q.1 := id rfl
theorem no_g {cd : Int32} {j : Nat} (hj : j < 5) (e1 : cI (-2) - cd = nI j) (e2 : -cd = nI (j + 2)) (hR : Rel S M) : ∃ S' M', fX4_refuse cd S = some (cd, S') ∧ fX5_no cd M = some (cd, M') ∧ Rel S' M' ∧ x_tape S' = x_tape S ∧ m_from M' = m_from M := by
  obtain ⟨n, c, k, w, l, d, f, wm, hr, b, ch, sd, P, Q, hx, rfl, h, hZ, hS, hT, hF, hK⟩ := hR
  refine ⟨xs_refusals S (upd (x_refusals S) j (x_refusals S j + 1)), eM n c k w l d f wm hr b ch sd (ps_refusals P (upd (p_refusals P) (j + 2) (p_refusals P (j + 2) + 1))) Q, ?_, ?_, ?_, rfl, by rw [f_from, f_from]⟩
  · unfold fX4_refuse
    rw [e1, if_neg (nI_pos (by omega)), if_neg (show ¬ (5 : Int32) ≤ nI j from nI_ge (a := j) (b := 5) hj (by omega)), u_gd hj (by omega), u_ix (by omega)]
    simp only [Option.bind_some, u_gd hj (show 5 < 2 ^ 31 by decide), u_ix (show j < 2 ^ 31 by omega)]
  · unfold fX5_no
    rw [e2, u_gd (by omega) (by omega)]
    simp only [Option.bind_some, u_gd (show j + 2 < 7 by omega) (show 7 < 2 ^ 31 by decide), u_ix (show j + 2 < 2 ^ 31 by omega), f_refusals]
    rw [fs_refusals]
  · refine rel_ref hx h ⟨hZ, hS, hT, hF, hK⟩ (fun i hi => ?_)
    by_cases e : i = j
    · subst e
      rw [pk_us, pk_us, hF i hi]
    · rw [pk_un e, pk_un (by omega), hF i hi]
theorem out_no {cd : Int32} {j : Nat} (hj : j < 5) (e1 : cI (-2) - cd = nI j) (e2 : -cd = nI (j + 2)) (hR : Rel S M) : Out ((fX4_refuse cd S).bind fun q => some (q.1, q.2)) ((fX5_no cd M).bind fun q => some (q.1, q.2)) := by
  obtain ⟨S', M', a, b, c, -⟩ := no_g hj e1 e2 hR
  rw [a, b]
  exact ⟨cd, S', M', rfl, rfl, c⟩
theorem out2 (hR : Rel S M) : Out ((fX4_refuse (cI (-2)) S).bind fun q => some (q.1, q.2)) ((fX5_no (cI (-2)) M).bind fun q => some (q.1, q.2)) := out_no (j := 0) (by omega) (by decide) (by decide) hR
theorem out3 (hR : Rel S M) : Out ((fX4_refuse (cI (-3)) S).bind fun q => some (q.1, q.2)) ((fX5_no (cI (-3)) M).bind fun q => some (q.1, q.2)) := out_no (j := 1) (by omega) (by decide) (by decide) hR
theorem out4 (hR : Rel S M) : Out ((fX4_refuse (cI (-4)) S).bind fun q => some (q.1, q.2)) ((fX5_no (cI (-4)) M).bind fun q => some (q.1, q.2)) := out_no (j := 2) (by omega) (by decide) (by decide) hR
theorem out5 (hR : Rel S M) : Out ((fX4_refuse (cI (-5)) S).bind fun q => some (q.1, q.2)) ((fX5_no (cI (-5)) M).bind fun q => some (q.1, q.2)) := out_no (j := 3) (by omega) (by decide) (by decide) hR
theorem out6 (hR : Rel S M) : Out ((fX4_refuse (cI (-6)) S).bind fun q => some (q.1, q.2)) ((fX5_no (cI (-6)) M).bind fun q => some (q.1, q.2)) := out_no (j := 4) (by omega) (by decide) (by decide) hR
end R0
