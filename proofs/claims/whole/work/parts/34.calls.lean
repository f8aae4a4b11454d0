/-! ===== pure layer: shelves and settings ===== -/
section C0
variable {n c : Nat} {k w l : Nat → Nat} {d f wm hr b ch : Nat} {sd : Int32} {P : PT} {Q : QT} {S : XT} {M : MT} {p1 p2 p3 : Int32}
theorem f_taped : m_taped (eM n c k w l d f wm hr b ch sd P Q) = p_taped P := id rfl
theorem f_tape : m_tape (eM n c k w l d f wm hr b ch sd P Q) = p_tape P := id rfl
theorem f_holding : m_holding (eM n c k w l d f wm hr b ch sd P Q) = p_holding P := id rfl
theorem f_rowLength : m_rowLength (eM n c k w l d f wm hr b ch sd P Q) = p_rowLength P := id rfl
theorem f_rowOf : m_rowOf (eM n c k w l d f wm hr b ch sd P Q) = p_rowOf P := id rfl
theorem f_imaged : m_imaged (eM n c k w l d f wm hr b ch sd P Q) = p_imaged P := id rfl
theorem f_old : m_old (eM n c k w l d f wm hr b ch sd P Q) = p_old P := id rfl
theorem fs_taped {v : Int32} : ms_taped (eM n c k w l d f wm hr b ch sd P Q) v = eM n c k w l d f wm hr b ch sd (ps_taped P v) Q := id rfl
theorem fs_tape {v : Nat → Int32} : ms_tape (eM n c k w l d f wm hr b ch sd P Q) v = eM n c k w l d f wm hr b ch sd (ps_tape P v) Q := id rfl
theorem fs_holding {v : Nat → Int32} : ms_holding (eM n c k w l d f wm hr b ch sd P Q) v = eM n c k w l d f wm hr b ch sd (ps_holding P v) Q := id rfl
theorem fs_rowLength {v : Nat → Int32} : ms_rowLength (eM n c k w l d f wm hr b ch sd P Q) v = eM n c k w l d f wm hr b ch sd (ps_rowLength P v) Q := id rfl
theorem fs_rowOf {v : Nat → Int64} : ms_rowOf (eM n c k w l d f wm hr b ch sd P Q) v = eM n c k w l d f wm hr b ch sd (ps_rowOf P v) Q := id rfl
theorem fs_imaged {v : Int32} : ms_imaged (eM n c k w l d f wm hr b ch sd P Q) v = eM n c k w l d f wm hr b ch sd (ps_imaged P v) Q := id rfl
theorem fs_old {v : Nat → Int32} : ms_old (eM n c k w l d f wm hr b ch sd P Q) v = eM n c k w l d f wm hr b ch sd (ps_old P v) Q := id rfl
theorem fs_n {v : Nat} : ms_n (eM n c k w l d f wm hr b ch sd P Q) (nI v) = eM v c k w l d f wm hr b ch sd P Q := id rfl
theorem fs_motes {v : Nat} : ms_motes (eM n c k w l d f wm hr b ch sd P Q) (nI v) = eM n v k w l d f wm hr b ch sd P Q := id rfl
theorem fs_own {v : Nat → Nat} : ms_own (eM n c k w l d f wm hr b ch sd P Q) (fun i => nI (v i)) = eM n c k v l d f wm hr b ch sd P Q := id rfl
theorem RX.sh {P' : PT} {V : Nat → ShT} (hX : RX S P c) (e1 : p_taped P' = p_taped P) (e2 : p_tape P' = p_tape P) (e3 : p_refusals P' = p_refusals P) (e4 : p_imaged P' = p_imaged P) (e5 : p_old P' = p_old P) (hV : ∀ s, s < 8 → ShR (V s) (p_holding P' s) (p_rowLength P' s) (fun i => p_rowOf P' (40 * s + i)) c) : RX (xs_sh S V) P' c := by
  obtain ⟨h1, h2, h3, h4, h5⟩ := hX
  refine ⟨h1, hV, ?_, ?_, ?_⟩
  · unfold TapeR at h3 ⊢
    rw [e1, e2]
    exact h3
  · unfold RefR at h4 ⊢
    rw [e3]
    exact h4
  · unfold KeptR at h5 ⊢
    rw [e4, e5]
    exact h5
theorem row_cases {s : Nat} (hs : s < 8) (hX : RX S P c) (hc : c ≤ 10) : (sh_held (x_sh S s) = 0 ∧ p_holding P s = cI (-1) ∧ fX5_isRow (nI s) (eM n c k w l d f wm hr b ch sd P Q) = some 0 ∧ fX5_noRow (nI s) (eM n c k w l d f wm hr b ch sd P Q) = some (cI (-4))) ∨ (sh_held (x_sh S s) = 2 ∧ ∃ m, m < c ∧ sh_number (x_sh S s) = nI m ∧ p_holding P s = nI (10 + m) ∧ fX5_isRow (nI s) (eM n c k w l d f wm hr b ch sd P Q) = some 0 ∧ fX5_noRow (nI s) (eM n c k w l d f wm hr b ch sd P Q) = some (cI (-3))) ∨ (sh_held (x_sh S s) = 1 ∧ ∃ st, st ≤ 4 ∧ ∃ sz, sz ≤ 40 ∧ sh_sort (x_sh S s) = nI st ∧ p_holding P s = nI st ∧ sh_size (x_sh S s) = nI sz ∧ p_rowLength P s = nI sz ∧ (∀ i, i < 40 → sh_elements (x_sh S s) i = p_rowOf P (40 * s + i)) ∧ fX5_isRow (nI s) (eM n c k w l d f wm hr b ch sd P Q) = some 1) := by
  have q := hX.2.1 s hs
  have e1 : fX5_isRow (nI s) (eM n c k w l d f wm hr b ch sd P Q) = (fX5_within (p_holding P s) (0 : Int32) (4 : Int32)).bind fun q1 => gd (isb q1) (some q1) := by
    unfold fX5_isRow
    rw [u_gd hs (by omega), f_holding, u_ix (by omega)]
  have e2 : fX5_noRow (nI s) (eM n c k w l d f wm hr b ch sd P Q) = if p_holding P s < (10 : Int32) then (if 0 ≤ p_holding P s then some (0 : Int32) else some (cI (-4))) else some (cI (-3)) := by
    unfold fX5_noRow
    rw [u_gd hs (by omega), f_holding, u_ix (by omega), u_gd hs (by omega)]
  rw [e1, e2]
  rcases q with ⟨a, b⟩ | ⟨a, ⟨st, hst, b1, b2⟩, ⟨sz, hsz, b3, b4⟩, b5⟩ | ⟨a, m, hm, b1, b2⟩
  · refine Or.inl ⟨a, b, ?_, ?_⟩
    · rw [b]
      decide
    · rw [b]
      decide
  · refine Or.inr (Or.inr ⟨a, st, hst, sz, hsz, b1, b2, b3, b4, b5, ?_⟩)
    rw [b2]
    unfold fX5_within
    rw [if_neg (nI_pos (by omega)), if_neg (show ¬ (4 : Int32) < nI st from nI_nlt (a := 4) (b := st) hst (by omega))]
    rfl
  · refine Or.inr (Or.inl ⟨a, m, hm, b1, b2, ?_, ?_⟩)
    · rw [b2]
      unfold fX5_within
      rw [if_neg (nI_pos (by omega)), if_pos (show (4 : Int32) < nI (10 + m) from nI_lt (a := 4) (b := 10 + m) (by omega) (by omega))]
      rfl
    · rw [b2, if_neg (show ¬ nI (10 + m) < (10 : Int32) from nI_nlt (a := 10 + m) (b := 10) (by omega) (by omega))]
theorem fillL {v : Int64} : ∀ (r j fu : Nat) (g : Nat → Int64), j + r = 40 → r < fu → (∀ i, i < j → g i = v) → ∃ g', fJ7_fill_d0a16_L6 v fu (nI j) (40 : Int32) g = some g' ∧ ∀ i, i < 40 → g' i = v := by
  intro r
  induction r with
  | zero =>
    intro j fu g e hf hg
    obtain rfl : j = 40 := by omega
    cases fu with
    | zero => omega
    | succ fu =>
      refine ⟨g, ?_, hg⟩
      unfold fJ7_fill_d0a16_L6
      rw [if_pos (show (40 : Int32) ≤ nI 40 from nI_le (a := 40) (b := 40) (Nat.le_refl _) (by omega))]
  | succ r ih =>
    intro j fu g e hf hg
    cases fu with
    | zero => omega
    | succ fu =>
      unfold fJ7_fill_d0a16_L6
      rw [if_neg (show ¬ (40 : Int32) ≤ nI j from nI_ge (a := j) (b := 40) (by omega) (by omega)), u_gd (by omega) (by omega), u_ix (by omega), nI_1]
      exact ih (j + 1) fu _ (by omega) (by omega) (fun i hi => by
        by_cases e : i = j
        · subst e
          rw [pk_uLs]
        · rw [pk_uLn e]
          exact hg i (by omega))
theorem m_rowL {s : Nat} (hs : s < 8) : ∀ (r j fu : Nat) (P : PT), j + r = 40 → r < fu → (∀ i, i < j → p_rowOf P (40 * s + i) = 0) → ∃ g, fX5_row_L50 (nI s) p2 p3 fu (nI j) (eM n c k w l d f wm hr b ch sd P Q) = some ((1 : Int32), eM n c k w l d f wm hr b ch sd (ps_rowOf P g) Q) ∧ (∀ i, i < 40 → g (40 * s + i) = 0) ∧ ∀ x, x < 40 * s ∨ 40 * s + 40 ≤ x → g x = p_rowOf P x := by
  intro r
  induction r with
  | zero =>
    intro j fu P e hf hg
    obtain rfl : j = 40 := by omega
    cases fu with
    | zero => omega
    | succ fu =>
      refine ⟨p_rowOf P, ?_, hg, fun x _ => rfl⟩
      unfold fX5_row_L50
      rw [if_pos (show (40 : Int32) ≤ nI 40 from nI_le (a := 40) (b := 40) (Nat.le_refl _) (by omega))]
      rfl
  | succ r ih =>
    intro j fu P e hf hg
    cases fu with
    | zero => omega
    | succ fu =>
      unfold fX5_row_L50
      rw [if_neg (show ¬ (40 : Int32) ≤ nI j from nI_ge (a := j) (b := 40) (by omega) (by omega)), show (40 : Int32) * nI s = nI (40 * s) from pk_mul 40 s, nI_add]
      simp only [bs, u_gd (show 40 * s + j < 320 by omega) (show 320 < 2 ^ 31 by decide), u_ix (show 40 * s + j < 2 ^ 31 by omega), f_rowOf]
      rw [fs_rowOf, nI_1]
      obtain ⟨g, a, b1, b2⟩ := ih (j + 1) fu (ps_rowOf P (vp_updL (p_rowOf P) (40 * s + j) 0)) (by omega) (by omega) (fun i hi => by
        show vp_updL (p_rowOf P) (40 * s + j) 0 (40 * s + i) = 0
        by_cases e : i = j
        · subst e
          rw [pk_uLs]
        · rw [pk_uLn (by omega)]
          exact hg i (by omega))
      refine ⟨g, a, b1, fun x hx => ?_⟩
      rw [b2 x hx]
      exact pk_uLn (by omega)
theorem c_row (hR : Rel S M) : Out (fX4_row p1 p2 p3 S) (fX5_row p1 p2 p3 M) := by
  obtain ⟨n, c, k, w, l, d, f, wm, hr, b, ch, sd, P, Q, hx, rfl, h, hX⟩ := hR
  have hR := rel_s (Q := Q) hx h hX
  have hc := h.hc
  unfold fX4_row fX5_row fX4_row_j23 fX5_row_j26
  rcases shelf_cases p1 with ⟨a, a'⟩ | ⟨s, hs, rfl, a, a'⟩
  · rw [a, a']
    simp only [bs, ↓reduceIte]
    exact out2 hR
  rw [a, a']
  simp only [bs, one0, ↓reduceIte]
  rcases wi_cases (N := 4) (4 : Int32) p2 rfl (by decide) with ⟨e, h1 | ⟨h1, h2, h3⟩⟩ | ⟨st, hst, rfl, h1, h2, h3, e⟩
  · rw [e, if_pos h1]
    simp only [bs, ↓reduceIte]
    exact out2 hR
  · rw [e, if_neg h1, if_pos h2]
    simp only [bs, ↓reduceIte]
    exact out2 hR
  rw [e, if_neg h1, if_neg h2]
  simp only [bs, one0, ↓reduceIte]
  rcases count_cases p3 with ⟨a, a'⟩ | ⟨z, hz, rfl, a, a'⟩
  · rw [a, a']
    simp only [bs, ↓reduceIte]
    exact out2 hR
  rw [a, a']
  simp only [bs, one0, ↓reduceIte, u_gd hs (show 8 < 2 ^ 31 by decide), u_ix (show s < 2 ^ 31 by omega), f_holding, f_rowLength]
  unfold fX2_takeRow fJ7_fill_d0a16
  obtain ⟨g', e1, e2⟩ := fillL (v := 0) 40 0 FU (sh_elements (shs_size (shs_sort (shs_held (x_sh S s) 1) (nI st)) (nI z))) (by omega) (by show 40 < 1100; omega) (fun i hi => by omega)
  simp only [bs]
  rw [show fJ7_fill_d0a16_L6 0 FU (0 : Int32) (40 : Int32) _ = some g' from e1]
  simp only [bs]
  rw [fs_holding, f_rowLength, fs_rowLength]
  obtain ⟨g, e3, e4, e5⟩ := m_rowL (n := n) (c := c) (k := k) (w := w) (l := l) (d := d) (f := f) (wm := wm) (hr := hr) (b := b) (ch := ch) (sd := sd) (Q := Q) (p2 := nI st) (p3 := nI z) hs 40 0 FU (ps_rowLength (ps_holding P (upd (p_holding P) s (nI st))) (upd (p_rowLength (ps_holding P (upd (p_holding P) s (nI st)))) s (nI z))) (by omega) (by show 40 < 1100; omega) (fun i hi => by omega)
  rw [show fX5_row_L50 (nI s) (nI st) (nI z) FU (0 : Int32) _ = _ from e3]
  refine ⟨1, _, _, rfl, rfl, rel_s (S := xs_sh S _) hx h (RX.sh hX rfl rfl rfl rfl rfl (fun t ht => ?_))⟩
  by_cases e : t = s
  · subst e
    rw [va_up_self]
    refine Or.inr (Or.inl ⟨rfl, ⟨st, hst, rfl, pk_us⟩, ⟨z, hz, rfl, pk_us⟩, fun i hi => ?_⟩)
    show g' i = g (40 * t + i)
    rw [e2 i hi, e4 i hi]
  · rw [va_up_ne _ _ e]
    have q := hX.2.1 t ht
    have r1 : p_holding (ps_rowOf (ps_rowLength (ps_holding P (upd (p_holding P) s (nI st))) (upd (p_rowLength (ps_holding P (upd (p_holding P) s (nI st)))) s (nI z))) g) t = p_holding P t := pk_un e
    have r2 : p_rowLength (ps_rowOf (ps_rowLength (ps_holding P (upd (p_holding P) s (nI st))) (upd (p_rowLength (ps_holding P (upd (p_holding P) s (nI st)))) s (nI z))) g) t = p_rowLength P t := pk_un e
    rw [r1, r2]
    rcases q with q | ⟨q1, q2, q3, q4⟩ | q
    · exact Or.inl q
    · exact Or.inr (Or.inl ⟨q1, q2, q3, fun i hi => by
        rw [q4 i hi]
        exact (e5 (40 * t + i) (by omega)).symm⟩)
    · exact Or.inr (Or.inr q)
end C0
