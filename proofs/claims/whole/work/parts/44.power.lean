/-! ===== pure layer: what power each has ===== -/
def Nk (w : Nat → Nat) (m : Nat) : Nat → Nat → Nat
  | 0, x => if x = 0 then 1 else 0
  | j + 1, x => Nk w m j x + (if j ≠ m ∧ w j ≤ x then Nk w m j (x - w j) else 0)
theorem Nk_0 {w : Nat → Nat} {m : Nat} : ∀ {j : Nat}, (∀ i, i < j → w i ≤ 9) → ∀ x, 9 * j < x → Nk w m j x = 0
  | 0, _, x, hx => if_neg (by omega)
  | j + 1, h, x, hx => by
    have hw := h j (by omega)
    rw [Nk, Nk_0 (fun i hi => h i (by omega)) x (by omega)]
    split
    · rw [Nk_0 (fun i hi => h i (by omega)) (x - w j) (by omega)]
    · rfl
def wt (w : Nat → Nat) (j s : Nat) : Nat := sm (fun o => if s / 2 ^ o % 2 = 1 then w o else 0) j
theorem sm_split (f : Nat → Nat) (a : Nat) : ∀ r, sm f (a + r) = sm f a + sm (fun i => f (a + i)) r
  | 0 => rfl
  | r + 1 => by
    rw [show a + (r + 1) = (a + r) + 1 from rfl, sm, sm, sm_split f a r, Nat.add_assoc]
theorem sm_zero {f : Nat → Nat} : ∀ {r : Nat}, (∀ i, i < r → f i = 0) → sm f r = 0
  | 0, _ => rfl
  | r + 1, h => by rw [sm, sm_zero (fun i hi => h i (by omega)), h r (by omega)]
theorem sm_add {f g : Nat → Nat} : ∀ {r : Nat}, sm (fun i => f i + g i) r = sm f r + sm g r
  | 0 => rfl
  | r + 1 => by
    rw [sm, sm, sm, sm_add]
    omega
theorem bit_lo {j s o : Nat} (ho : o < j) : (2 ^ j + s) / 2 ^ o % 2 = s / 2 ^ o % 2 := by
  have e : 2 ^ j = 2 ^ o * (2 * 2 ^ (j - o - 1)) := by
    rw [← Nat.mul_assoc, ← Nat.pow_succ, ← Nat.pow_add]
    congr 1
    omega
  rw [e, Nat.mul_add_div (Nat.two_pow_pos o), Nat.mul_add_mod]
theorem wt_lo {w : Nat → Nat} {j s : Nat} (hs : s < 2 ^ j) : wt w (j + 1) s = wt w j s := by
  unfold wt
  rw [sm, Nat.div_eq_of_lt hs, if_neg (by decide)]
  rfl
theorem wt_hi {w : Nat → Nat} {j s : Nat} (hs : s < 2 ^ j) : wt w (j + 1) (2 ^ j + s) = wt w j s + w j := by
  unfold wt
  have e1 : (2 ^ j + s) / 2 ^ j = 1 := by
    have := Nat.add_div_left s (Nat.two_pow_pos j)
    rw [this, Nat.div_eq_of_lt hs]
  rw [sm, e1, if_pos rfl]
  congr 1
  exact sm_cong (fun o ho => by rw [bit_lo ho])
theorem count_sets {w : Nat → Nat} {m : Nat} : ∀ (j : Nat), j ≤ 10 → (∀ i, i < j → w i ≤ 9) → ∀ Q : Nat → Bool, sm (fun s => if s / 2 ^ m % 2 = 1 then 0 else if Q (wt w j s) = true then 1 else 0) (2 ^ j) = sm (fun x => if Q x = true then Nk w m j x else 0) 91
  | 0, _, _, Q => by
    have e : sm (fun x => if Q x = true then Nk w m 0 x else 0) 91 = sm (fun x => if Q x = true then Nk w m 0 x else 0) 1 + sm (fun i => if Q (1 + i) = true then Nk w m 0 (1 + i) else 0) 90 := sm_split _ 1 90
    rw [e, sm_zero (r := 90) (fun i hi => by
      split
      · exact if_neg (by omega)
      · rfl)]
    show (0 + if 0 / 2 ^ m % 2 = 1 then 0 else if Q 0 = true then 1 else 0) = (0 + if Q 0 = true then 1 else 0) + 0
    rw [Nat.zero_div, if_neg (by decide)]
    rfl
  | j + 1, hj, hw, Q => by
    have h2 : (2 : Nat) ^ (j + 1) = 2 ^ j + 2 ^ j := by
      rw [Nat.pow_succ]
      omega
    have hwj := hw j (by omega)
    have ih := count_sets (w := w) (m := m) j (by omega) (fun i hi => hw i (by omega))
    rw [h2, sm_split]
    have e1 : sm (fun s => if s / 2 ^ m % 2 = 1 then 0 else if Q (wt w (j + 1) s) = true then 1 else 0) (2 ^ j) = sm (fun x => if Q x = true then Nk w m j x else 0) 91 := by
      rw [← ih Q]
      exact sm_cong (fun s hs => by rw [wt_lo hs])
    rw [e1]
    by_cases hm : j = m
    · subst hm
      have e2 : sm (fun i => if (2 ^ j + i) / 2 ^ j % 2 = 1 then 0 else if Q (wt w (j + 1) (2 ^ j + i)) = true then 1 else 0) (2 ^ j) = 0 := sm_zero (fun i hi => by
        rw [Nat.add_div_left i (Nat.two_pow_pos j), Nat.div_eq_of_lt hi]
        rfl)
      rw [e2, Nat.add_zero]
      refine (sm_cong (fun x hx => ?_))
      rw [Nk, if_neg (show ¬ (j ≠ j ∧ w j ≤ x) from fun z => z.1 rfl), Nat.add_zero]
    · have e2 : sm (fun i => if (2 ^ j + i) / 2 ^ m % 2 = 1 then 0 else if Q (wt w (j + 1) (2 ^ j + i)) = true then 1 else 0) (2 ^ j) = sm (fun x => if Q (x + w j) = true then Nk w m j x else 0) 91 := by
        rw [← ih (fun y => Q (y + w j))]
        refine sm_cong (fun s hs => ?_)
        have eb : (2 ^ j + s) / 2 ^ m % 2 = s / 2 ^ m % 2 := by
          by_cases q : m < j
          · exact bit_lo q
          · have hp : (2 : Nat) ^ (j + 1) ≤ 2 ^ m := Nat.pow_le_pow_right (by decide) (by omega)
            rw [Nat.div_eq_of_lt (by omega), Nat.div_eq_of_lt (by omega)]
        rw [eb, wt_hi hs]
      rw [e2]
      have e3 : sm (fun x => if Q x = true then Nk w m (j + 1) x else 0) 91 = sm (fun x => if Q x = true then Nk w m j x else 0) 91 + sm (fun x => if Q x = true then (if w j ≤ x then Nk w m j (x - w j) else 0) else 0) 91 := by
        rw [← sm_add]
        refine sm_cong (fun x hx => ?_)
        rw [Nk]
        by_cases q : Q x = true
        · rw [if_pos q, if_pos q, if_pos q]
          congr 1
          by_cases q2 : w j ≤ x
          · rw [if_pos q2, if_pos ⟨hm, q2⟩]
          · rw [if_neg q2, if_neg (fun z => q2 z.2)]
        · rw [if_neg q, if_neg q, if_neg q]
      rw [e3, Nat.add_left_cancel_iff]
      have e4 : sm (fun x => if Q x = true then (if w j ≤ x then Nk w m j (x - w j) else 0) else 0) 91 = sm (fun x => if Q x = true then (if w j ≤ x then Nk w m j (x - w j) else 0) else 0) (w j) + sm (fun i => if Q (w j + i) = true then (if w j ≤ w j + i then Nk w m j (w j + i - w j) else 0) else 0) (91 - w j) := by
        have := sm_split (fun x => if Q x = true then (if w j ≤ x then Nk w m j (x - w j) else 0) else 0) (w j) (91 - w j)
        rw [show w j + (91 - w j) = 91 by omega] at this
        exact this
      have e5 : sm (fun x => if Q (x + w j) = true then Nk w m j x else 0) 91 = sm (fun x => if Q (x + w j) = true then Nk w m j x else 0) (91 - w j) + sm (fun i => if Q (91 - w j + i + w j) = true then Nk w m j (91 - w j + i) else 0) (w j) := by
        have := sm_split (fun x => if Q (x + w j) = true then Nk w m j x else 0) (91 - w j) (w j)
        rw [show 91 - w j + w j = 91 by omega] at this
        exact this
      rw [e4, e5, sm_zero (r := w j) (fun i hi => by
        split
        · exact Nk_0 (fun i hi => hw i (by omega)) _ (by omega)
        · rfl), sm_zero (r := w j) (fun i hi => by
        split
        · exact if_neg (by omega)
        · rfl), Nat.zero_add, Nat.add_zero]
      refine sm_cong (fun i hi => ?_)
      rw [if_pos (show w j ≤ w j + i by omega), show w j + i - w j = i by omega, Nat.add_comm (w j) i]
theorem sbits : ∀ o, o < 10 → ((nI o &&& 31).toBitVec.smod 32).toNat = o := by decide +kernel
theorem sh1 : ∀ c, c < 11 → jshl (1 : Int32) (nI c) = nI (2 ^ c) := by decide +kernel
theorem sbit {s o : Nat} (hs : s < 2 ^ 31) (ho : o < 10) : jshr (nI s) (nI o) &&& (1 : Int32) = 1 ↔ s / 2 ^ o % 2 = 1 := by
  unfold jshr
  have hle : s / 2 ^ o ≤ s := Nat.div_le_self _ _
  rw [pk_shrN hs _ o (sbits o ho), pk_andN (n := s / 2 ^ o) (by omega) (m := 1) 1 (by decide)]
  exact nI_eq (a := s / 2 ^ o % 2 ^ 1) (b := 1) (by omega) (by omega)
section D0
variable {n c : Nat} {k w l : Nat → Nat} {d f wm hr b ch : Nat} {sd : Int32} {P : PT} {Q : QT} {S : XT} {M : MT} {p1 p2 p3 p4 p5 : Int32}
theorem xsg {g : Nat → Int32} : x_sets (xs_sets S g) = g := id rfl
theorem xsn {g : Nat → Int32} : x_now (xs_sets S g) = x_now S := id rfl
theorem xss {g g' : Nat → Int32} : xs_sets (xs_sets S g) g' = xs_sets S g' := id rfl
theorem rel_sets {g : Nat → Int32} (hR : Rel S M) : Rel (xs_sets S g) M := hR
theorem fillI {v : Int32} : ∀ (r j fu : Nat) (g : Nat → Int32), j + r = 91 → r < fu → (∀ i, i < j → g i = v) → ∃ g', fJ7_fill_53178_L5 v fu (nI j) (91 : Int32) g = some g' ∧ ∀ i, i < 91 → g' i = v := by
  intro r
  induction r with
  | zero =>
    intro j fu g e hf hg
    obtain rfl : j = 91 := by omega
    cases fu with
    | zero => omega
    | succ fu =>
      refine ⟨g, ?_, hg⟩
      unfold fJ7_fill_53178_L5
      rw [if_pos (show (91 : Int32) ≤ nI 91 by decide)]
  | succ r ih =>
    intro j fu g e hf hg
    cases fu with
    | zero => omega
    | succ fu =>
      unfold fJ7_fill_53178_L5
      rw [if_neg (show ¬ (91 : Int32) ≤ nI j from nI_ge (a := j) (b := 91) (by omega) (by omega)), u_gd (by omega) (by omega), u_ix (by omega), nI_1]
      exact ih (j + 1) fu _ (by omega) (by omega) (fun i hi => by
        by_cases e : i = j
        · subst e
          rw [pk_us]
        · rw [pk_un e]
          exact hg i (by omega))
theorem x_in {kx : Int32 → XT → Option XT} {m j : Nat} (hjm : j ≠ m) (hw9 : w j ≤ 9) : ∀ (r i fu : Nat) (g : Nat → Int32), i = w j + r → i ≤ 91 → r < fu → (∀ x, x < 91 → g x = if i ≤ x then nI (Nk w m (j + 1) x) else nI (Nk w m j x)) → ∃ g', fX4_countSetsWithout_L59 kx p1 fu (nI j) (nI (w j)) (nI i - 1) (xs_sets S g) = kx (nI (j + 1)) (xs_sets S g') ∧ ∀ x, x < 91 → g' x = nI (Nk w m (j + 1) x) := by
  intro r
  induction r with
  | zero =>
    intro i fu g e hi hf hg
    cases fu with
    | zero => omega
    | succ fu =>
      refine ⟨g, ?_, fun x hx => ?_⟩
      · unfold fX4_countSetsWithout_L59 fX4_countSetsWithout_j90
        have : nI i - 1 < nI (w j) := by
          by_cases q : i = 0
          · have q2 : w j = 0 := by omega
            rw [q, q2]
            decide
          · rw [show nI i - (1 : Int32) = nI (i - 1) from pk_sub (a := i) (b := 1) (by omega)]
            exact nI_lt (by omega) (by omega)
        rw [if_pos this, nI_1]
      · rw [hg x hx]
        by_cases q : i ≤ x
        · rw [if_pos q]
        · rw [if_neg q, Nk, if_neg (fun z => by have := z.2; omega)]
          rfl
  | succ r ih =>
    intro i fu g e hi hf hg
    cases fu with
    | zero => omega
    | succ fu =>
      obtain ⟨y, rfl⟩ : ∃ y, i = y + 1 := ⟨i - 1, by omega⟩
      unfold fX4_countSetsWithout_L59
      rw [nI_pred, if_neg (nI_nlt (show w j ≤ y by omega) (by omega)), show nI y - nI (w j) = nI (y - w j) from pk_sub (by omega), m1v]
      simp only [bs, xsg, xss, u_gd (show y < 91 by omega) (show 91 < 2 ^ 31 by decide), u_gd (show y - w j < 91 by omega) (show 91 < 2 ^ 31 by decide), u_ix (show y < 2 ^ 31 by omega), u_ix (show y - w j < 2 ^ 31 by omega)]
      refine ih y fu _ (by omega) (by omega) (by omega) (fun x hx => ?_)
      by_cases q : x = y
      · subst q
        rw [pk_us, if_pos (Nat.le_refl _), hg x (by omega), hg (x - w j) (by omega), if_neg (by omega), if_neg (by omega), nI_add, Nk, if_pos ⟨hjm, by omega⟩]
      · rw [pk_un q, hg x hx]
        by_cases q2 : y + 1 ≤ x
        · rw [if_pos q2, if_pos (by omega)]
        · rw [if_neg q2, if_neg (by omega)]
theorem x_cs {m : Nat} (hx : x_now S = (eH n c k w l d f wm hr b ch sd)) (h : HI n c k w l d f wm hr b ch) (hm31 : m < 2 ^ 31) : ∃ g, fX4_countSetsWithout (nI m) S = some (xs_sets S g) ∧ ∀ x, x < 91 → g x = nI (Nk w m c x) := by
  have hc := h.hc
  have q : ∀ (r j fu : Nat) (g : Nat → Int32), j + r = c → r < fu → (m < 2 ^ 31) → (∀ x, x < 91 → g x = nI (Nk w m j x)) → ∃ g', fX4_countSetsWithout_L17 (nI m) fu (nI j) (xs_sets S g) = some (xs_sets S g') ∧ ∀ x, x < 91 → g' x = nI (Nk w m c x) := by
    intro r
    induction r with
    | zero =>
      intro j fu g e hf hm hg
      obtain rfl : j = c := by omega
      cases fu with
      | zero => omega
      | succ fu =>
        refine ⟨g, ?_, hg⟩
        unfold fX4_countSetsWithout_L17
        rw [xsn, hx, e_count, if_pos (nI_le (Nat.le_refl _) (by omega))]
    | succ r ih =>
      intro j fu g e hf hm hg
      cases fu with
      | zero => omega
      | succ fu =>
        have hw9 := (h.m (show j < c by omega)).2.1
        unfold fX4_countSetsWithout_L17 fX4_countSetsWithout_j90
        rw [xsn, hx]
        simp only [e_side, e_count, e_kind, e_weight, e_cell, e_doors, e_fan, e_warm, e_hour, e_beam, e_chance, e_seed, u_gd (show j < 10 by omega) (show 10 < 2 ^ 31 by decide), u_ix (show j < 2 ^ 31 by omega)]
        rw [if_neg (nI_ge (show j < c by omega) (by omega))]
        by_cases q : j = m
        · subst q
          rw [if_pos rfl, nI_1]
          refine ih (j + 1) fu g (by omega) (by omega) hm (fun x hx => ?_)
          rw [hg x hx, Nk, if_neg (fun z => z.1 rfl)]
          rfl
        · rw [if_neg (fun z => q ((nI_eq (by omega) hm).mp z)), if_pos (nI_pos' (show w j < 2 ^ 31 by omega))]
          obtain ⟨g2, e1, e2⟩ := x_in (S := S) (p1 := nI m) (kx := fun v2 S0 => fX4_countSetsWithout_L17 (nI m) fu v2 S0) (w := w) (m := m) (j := j) q hw9 (91 - w j) 91 FU g (by omega) (by omega) (by show 91 - w j < 1100; omega) (fun x hx => by rw [if_neg (by omega), hg x hx])
          rw [show (91 : Int32) - (1 : Int32) = nI 91 - 1 from rfl, e1]
          exact ih (j + 1) fu g2 (by omega) (by omega) hm e2
  unfold fX4_countSetsWithout fJ7_fill_53178
  obtain ⟨g0, e1, e2⟩ := fillI (v := 0) 91 0 FU (x_sets S) (by omega) (by show 91 < 1100; omega) (fun i hi => by omega)
  rw [show fJ7_fill_53178_L5 (0 : Int32) FU (0 : Int32) (91 : Int32) (x_sets S) = _ from e1]
  simp only [bs]
  rw [show gd (inb (0 : Int32) 91) _ = _ from u_gd (a := 0) (by omega) (by omega)]
  exact q c 0 FU _ (by omega) (by show c < 1100; omega) hm31 (fun x hx => by
    show upd g0 0 1 x = _
    by_cases z : x = 0
    · subst z
      rw [pk_us]
      rfl
    · rw [pk_un z, e2 x hx, Nk, if_neg z]
      rfl)
/-- the mote's power -/
def pw (w : Nat → Nat) (c m : Nat) : Nat := sm (fun s => if s / 2 ^ m % 2 = 1 then 0 else if decide (2 * wt w c s ≤ sm w c ∧ sm w c < 2 * (wt w c s + w m)) = true then 1 else 0) (2 ^ c)
theorem x_pw {m : Nat} (hx : x_now S = (eH n c k w l d f wm hr b ch sd)) (h : HI n c k w l d f wm hr b ch) (hm : m < c) : ∃ g, fX4_power (nI m) S = some (nI (pw w c m), xs_sets S g) := by
  have hc := h.hc
  have hA := wia_le h
  have hwm := (h.m hm).2.1
  obtain ⟨g, e1, e2⟩ := x_cs (m := m) hx h (by omega)
  refine ⟨g, ?_⟩
  unfold fX4_power
  rw [e1]
  simp only [bs]
  rw [xsn, hx, x_wia hc]
  simp only [bs]
  unfold pw
  rw [count_sets c hc (fun i hi => (h.m hi).2.1) (fun y => decide (2 * y ≤ sm w c ∧ sm w c < 2 * (y + w m)))]
  generalize hF : (fun x => if decide (2 * x ≤ sm w c ∧ sm w c < 2 * (x + w m)) = true then Nk w m c x else 0) = F
  have q : ∀ (r x fu : Nat), x + r = 91 → r < fu → fX4_power_L18 (nI m) fu (nI (sm w c)) (nI (sm F x)) (nI x) (xs_sets S g) = some (nI (sm F 91), xs_sets S g) := by
    intro r
    induction r with
    | zero =>
      intro x fu e hf
      obtain rfl : x = 91 := by omega
      cases fu with
      | zero => omega
      | succ fu =>
        unfold fX4_power_L18
        rw [if_pos (show (91 : Int32) ≤ nI 91 by decide)]
    | succ r ih =>
      intro x fu e hf
      cases fu with
      | zero => omega
      | succ fu =>
        have ih' := ih (x + 1) fu (by omega) (by omega)
        rw [sm] at ih'
        have eF : F x = if 2 * x ≤ sm w c ∧ sm w c < 2 * (x + w m) then Nk w m c x else 0 := by
          rw [← hF]
          exact u_if (by rw [decide_eq_true_eq])
        unfold fX4_power_L18 fX4_power_j64
        rw [if_neg (show ¬ (91 : Int32) ≤ nI x from nI_ge (a := x) (b := 91) (by omega) (by omega)), xsn, hx]
        simp only [e_side, e_count, e_kind, e_weight, e_cell, e_doors, e_fan, e_warm, e_hour, e_beam, e_chance, e_seed, xsg, u_gd (show m < 10 by omega) (show 10 < 2 ^ 31 by decide), u_ix (show m < 2 ^ 31 by omega), u_gd (show x < 91 by omega) (show 91 < 2 ^ 31 by decide), u_ix (show x < 2 ^ 31 by omega)]
        rw [nI_add x (w m), show (2 : Int32) * nI x = nI (2 * x) from pk_mul 2 _, show (2 : Int32) * nI (x + w m) = nI (2 * (x + w m)) from pk_mul 2 _, nI_1, e2 x (by omega), nI_add, u_if (nI_ltI (a := sm w c) (b := 2 * x) (by omega) (by omega)), u_if (nI_leI (a := 2 * (x + w m)) (b := sm w c) (by omega) (by omega))]
        by_cases q1 : sm w c < 2 * x
        · rw [if_neg (by omega)] at eF
          rw [eF] at ih'
          rw [if_pos q1]
          exact ih'
        · rw [if_neg q1]
          by_cases q2 : 2 * (x + w m) ≤ sm w c
          · rw [if_neg (by omega)] at eF
            rw [eF] at ih'
            rw [if_pos q2]
            exact ih'
          · rw [if_pos (by omega)] at eF
            rw [eF] at ih'
            rw [if_neg q2]
            exact ih'
  exact q 91 0 FU (by omega) (by show 91 < 1100; omega)
theorem m_pw {m : Nat} (h : HI n c k w l d f wm hr b ch) (hm : m < c) : fX5_powerOf (nI m) (eM n c k w l d f wm hr b ch sd P Q) = some (nI (pw w c m)) := by
  have hc := h.hc
  have hA := wia_le h
  have hwm := (h.m hm).2.1
  have hp : (2 : Nat) ^ c ≤ 2 ^ 10 := Nat.pow_le_pow_right (by decide) hc
  rw [show (2 : Nat) ^ 10 = 1024 from rfl] at hp
  have hwt : ∀ s, wt w c s ≤ 90 := fun s => by
    have : wt w c s ≤ c * 9 := sm_le (fun i hi => by
      have := (h.m hi).2.1
      split <;> omega)
    omega
  unfold fX5_powerOf
  rw [m_aw hc]
  simp only [bs]
  have inn : ∀ (s : Nat) (v3 : Int32) (kx : Int32 → Int32 → Int32 → Option Int32), s < 2 ^ 31 → ∀ (r o fu : Nat), o + r = c → r < fu → fX5_powerOf_L40 kx (nI m) (eM n c k w l d f wm hr b ch sd P Q) fu (nI (sm w c)) v3 (nI s) (nI (wt w o s)) (nI o) = fX5_powerOf_j78 kx (nI m) (eM n c k w l d f wm hr b ch sd P Q) (nI (sm w c)) v3 (nI s) (nI (wt w c s)) := by
    intro s v3 kx hs r
    induction r with
    | zero =>
      intro o fu e hf
      obtain rfl : o = c := by omega
      cases fu with
      | zero => omega
      | succ fu =>
        unfold fX5_powerOf_L40
        simp only [f_n, f_motes, f_kind, f_own, f_cell, f_doors, f_ways, f_seed]
        rw [if_pos (nI_le (Nat.le_refl _) (by omega))]
    | succ r ih =>
      intro o fu e hf
      cases fu with
      | zero => omega
      | succ fu =>
        have ih' := ih (o + 1) fu (by omega) (by omega)
        have ew : wt w (o + 1) s = wt w o s + (if s / 2 ^ o % 2 = 1 then w o else 0) := rfl
        rw [ew] at ih'
        unfold fX5_powerOf_L40 fX5_powerOf_j72
        simp only [f_n, f_motes, f_kind, f_own, f_cell, f_doors, f_ways, f_seed, u_gd (show o < 10 by omega) (show 10 < 2 ^ 31 by decide), u_ix (show o < 2 ^ 31 by omega)]
        rw [if_neg (nI_ge (show o < c by omega) (by omega)), u_if (sbit hs (show o < 10 by omega)), nI_add, nI_1]
        by_cases q : s / 2 ^ o % 2 = 1
        · rw [if_pos q] at ih' ⊢
          exact ih'
        · rw [if_neg q] at ih' ⊢
          exact ih'
  unfold pw
  generalize hF : (fun s => if s / 2 ^ m % 2 = 1 then 0 else if decide (2 * wt w c s ≤ sm w c ∧ sm w c < 2 * (wt w c s + w m)) = true then 1 else 0) = F
  have out : ∀ (r s fu : Nat), s + r = 2 ^ c → r < fu → fX5_powerOf_L10 (nI m) (eM n c k w l d f wm hr b ch sd P Q) fu (nI (sm w c)) (nI (sm F s)) (nI s) = some (nI (sm F (2 ^ c))) := by
    intro r
    induction r with
    | zero =>
      intro s fu e hf
      obtain rfl : s = 2 ^ c := by omega
      cases fu with
      | zero => omega
      | succ fu =>
        unfold fX5_powerOf_L10
        simp only [f_n, f_motes, f_kind, f_own, f_cell, f_doors, f_ways, f_seed]
        rw [sh1 c (by omega), if_pos (nI_le (Nat.le_refl _) (by omega))]
    | succ r ih =>
      intro s fu e hf
      cases fu with
      | zero => omega
      | succ fu =>
        have ih' := ih (s + 1) fu (by omega) (by omega)
        rw [sm] at ih'
        have eF : F s = if s / 2 ^ m % 2 = 1 then 0 else if 2 * wt w c s ≤ sm w c ∧ sm w c < 2 * (wt w c s + w m) then 1 else 0 := by
          rw [← hF]
          show (if s / 2 ^ m % 2 = 1 then 0 else _) = _
          congr 1
          exact u_if (by rw [decide_eq_true_eq])
        have hws := hwt s
        unfold fX5_powerOf_L10 fX5_powerOf_j104
        simp only [f_n, f_motes, f_kind, f_own, f_cell, f_doors, f_ways, f_seed]
        rw [sh1 c (by omega), if_neg (nI_ge (show s < 2 ^ c by omega) (by omega)), u_if (sbit (s := s) (by omega) (show m < 10 by omega)), nI_1]
        by_cases q0 : s / 2 ^ m % 2 = 1
        · rw [if_pos q0] at eF
          rw [eF] at ih'
          rw [if_pos q0]
          exact ih'
        · rw [if_neg q0] at eF
          rw [if_neg q0, show fX5_powerOf_L40 _ (nI m) (eM n c k w l d f wm hr b ch sd P Q) FU (nI (sm w c)) (nI (sm F s)) (nI s) (0 : Int32) (0 : Int32) = _ from inn s _ (fun v2 v3 v4 => fX5_powerOf_L10 (nI m) (eM n c k w l d f wm hr b ch sd P Q) fu v2 v3 v4) (by omega) c 0 FU (by omega) (by show c < 1100; omega)]
          unfold fX5_powerOf_j78 fX5_powerOf_j104
          simp only [f_n, f_motes, f_kind, f_own, f_cell, f_doors, f_ways, f_seed, u_gd (show m < 10 by omega) (show 10 < 2 ^ 31 by decide), u_ix (show m < 2 ^ 31 by omega)]
          rw [nI_add (wt w c s) (w m), show (2 : Int32) * nI (wt w c s) = nI (2 * wt w c s) from pk_mul 2 _, show (2 : Int32) * nI (wt w c s + w m) = nI (2 * (wt w c s + w m)) from pk_mul 2 _, nI_1, nI_1, u_if (nI_ltI (a := sm w c) (b := 2 * wt w c s) (by omega) (by omega)), u_if (nI_leI (a := 2 * (wt w c s + w m)) (b := sm w c) (by omega) (by omega))]
          by_cases q1 : sm w c < 2 * wt w c s
          · rw [if_neg (by omega)] at eF
            rw [eF] at ih'
            rw [if_pos q1]
            exact ih'
          · rw [if_neg q1]
            by_cases q2 : 2 * (wt w c s + w m) ≤ sm w c
            · rw [if_neg (by omega)] at eF
              rw [eF] at ih'
              rw [if_pos q2]
              exact ih'
            · rw [if_pos (by omega)] at eF
              rw [eF] at ih'
              rw [if_neg q2]
              exact ih'
  exact out (2 ^ c) 0 FU (by omega) (by show 2 ^ c < 1100; omega)
theorem pw_le {m : Nat} (hc : c ≤ 10) : pw w c m ≤ 1024 := by
  have hp : (2 : Nat) ^ c ≤ 2 ^ 10 := Nat.pow_le_pow_right (by decide) hc
  rw [show (2 : Nat) ^ 10 = 1024 from rfl] at hp
  have : pw w c m ≤ 2 ^ c * 1 := sm_le (fun i hi => by
    split
    · omega
    · split <;> omega)
  omega
theorem c_moteOf (hR : Rel S M) : Out (fX4_moteOf p1 p2 S) (fX5_moteOf p1 p2 M) := by
  obtain ⟨n, c, k, w, l, d, f, wm, hr, b, ch, sd, P, Q, hx, rfl, h, hX⟩ := hR
  have hR := rel_s (Q := Q) hx h hX
  have hc := h.hc
  unfold fX4_moteOf fX5_moteOf
  rcases mote_cases (n := n) (k := k) (w := w) (l := l) (d := d) (f := f) (wm := wm) (hr := hr) (b := b) (ch := ch) (sd := sd) (P := P) (Q := Q) p1 hx hc with ⟨a, a'⟩ | ⟨m, hm, rfl, a, a'⟩
  · rw [a, a']
    simp only [bs, ↓reduceIte]
    exact out2 hR
  obtain ⟨g, e1⟩ := x_pw hx h hm
  rw [a, a', e1, m_pw h hm, hx]
  simp only [bs, one0, ↓reduceIte, u_gd (show m < 10 by omega) (show 10 < 2 ^ 31 by decide), u_ix (show m < 2 ^ 31 by omega), e_side, e_count, e_kind, e_weight, e_cell, e_doors, e_fan, e_warm, e_hour, e_beam, e_chance, e_seed, f_n, f_motes, f_kind, f_own, f_cell, f_doors, f_ways, f_seed, wy_g0, wy_g1, wy_g2, wy_g3, wy_g4, ix0, ix1, ix2, ix3, ix4, g05, g15, g25, g35, g45]
  rw [xlit h.hp (h.m hm).2.2, mlit h.hp (h.m hm).2.2]
  simp only [bs]
  by_cases q0 : p2 = 0
  · rw [if_pos q0, if_pos q0]
    exact ⟨_, _, _, rfl, rfl, hR⟩
  rw [if_neg q0, if_neg q0]
  by_cases q1 : p2 = 1
  · rw [if_pos q1, if_pos q1]
    exact ⟨_, _, _, rfl, rfl, hR⟩
  rw [if_neg q1, if_neg q1]
  by_cases q2 : p2 = 2
  · rw [if_pos q2, if_pos q2]
    exact ⟨_, _, _, rfl, rfl, hR⟩
  rw [if_neg q2, if_neg q2]
  by_cases q3 : p2 = 3
  · rw [if_pos q3, if_pos q3]
    unfold fX4_bit
    split
    · simp only [one0, ↓reduceIte, bs]
      exact ⟨_, _, _, rfl, rfl, hR⟩
    · simp only [↓reduceIte, bs]
      exact ⟨_, _, _, rfl, rfl, hR⟩
  rw [if_neg q3, if_neg q3]
  by_cases q4 : p2 = 4
  · rw [if_pos q4, if_pos q4]
    exact ⟨_, _, _, rfl, rfl, rel_sets hR⟩
  rw [if_neg q4, if_neg q4]
  exact out2 hR
theorem c_first (hR : Rel S M) : Out (fX4_first p1 S) (fX5_first p1 M) := by
  obtain ⟨n, c, k, w, l, d, f, wm, hr, b, ch, sd, P, Q, hx, rfl, h, hX⟩ := hR
  have hR := rel_s (Q := Q) hx h hX
  have hc := h.hc
  unfold fX4_first fX5_first fX4_first_j9
  rcases wi_cases (N := 1) (1 : Int32) p1 rfl (by decide) with ⟨e, h1 | ⟨h1, h2, h3⟩⟩ | ⟨v, hv, rfl, h1, h2, h3, e⟩
  · rw [e, if_pos h1]
    simp only [bs, ↓reduceIte]
    exact out2 hR
  · rw [e, if_neg h1, if_neg h3]
    simp only [bs, ↓reduceIte]
    exact out2 hR
  rw [e, if_neg h1, if_pos h3, hx, e_count]
  simp only [bs, one0, ↓reduceIte]
  by_cases hc0 : c = 0
  · rw [if_pos (show nI c = 0 by rw [hc0]; rfl)]
    unfold fX5_first_L23 fX5_first_j75
    rw [f_motes, if_pos (show nI c ≤ (0 : Int32) by rw [hc0]; decide), if_pos rfl]
    exact out5 hR
  rw [if_neg (nI_ne0 (show 0 < c by omega) (by omega))]
  have q : ∀ (r j fu : Nat) (yx ym mo : Int32) (g : Nat → Int32), j + r = c → r < fu → (j = 0 → mo = cI (-1)) → (0 < j → yx = ym ∧ ∃ i, i < c ∧ ym = nI i) → Out (fX4_first_L40 (nI v) fu yx mo (nI j) (xs_sets S g)) (fX5_first_L23 (nI v) fu ym mo (nI j) (eM n c k w l d f wm hr b ch sd P Q)) := by
    intro r
    induction r with
    | zero =>
      intro j fu yx ym mo g e hf h0 hp
      obtain rfl : j = c := by omega
      cases fu with
      | zero => omega
      | succ fu =>
        obtain ⟨rfl, i, hi, rfl⟩ := hp (by omega)
        unfold fX4_first_L40 fX5_first_L23 fX5_first_j75
        rw [xsn, hx, e_count, f_motes, if_pos (nI_le (Nat.le_refl _) (by omega)), if_pos (nI_le (Nat.le_refl _) (by omega)), if_neg (m1n (by omega))]
        exact ⟨_, _, _, rfl, rfl, rel_sets hR⟩
    | succ r ih =>
      intro j fu yx ym mo g e hf h0 hp
      cases fu with
      | zero => omega
      | succ fu =>
        have hj : j < c := by omega
        have step : ∀ (z : Nat) (g2 : Nat → Int32), z < 2 ^ 31 → Out (fX4_first_j75 (fun v2 v3 v4 S0 => fX4_first_L40 (nI v) fu v2 v3 v4 S0) (nI v) yx mo (nI j) (nI z) (xs_sets S g2)) (fX5_first_j52 (fun v2 v3 v4 S0 => fX5_first_L23 (nI v) fu v2 v3 v4 S0) (nI v) ym mo (nI j) (nI z) (eM n c k w l d f wm hr b ch sd P Q)) := by
          intro z g2 hz
          unfold fX4_first_j75 fX5_first_j52 fX4_first_j89 fX5_first_j69
          rw [nI_1]
          by_cases q : nI z ≤ mo
          · rw [if_pos q, if_neg (Int32.not_lt.mpr q)]
            have hj0 : 0 < j := by
              rcases Nat.eq_zero_or_pos j with y | y
              · rw [h0 y] at q
                exact absurd q (nle_m1 hz)
              · exact y
            exact ih (j + 1) fu _ _ _ g2 (by omega) (by omega) (by omega) (fun _ => hp hj0)
          · rw [if_neg q, if_pos (Int32.not_le.mp q)]
            exact ih (j + 1) fu _ _ _ g2 (by omega) (by omega) (by omega) (fun _ => ⟨rfl, j, hj, rfl⟩)
        unfold fX4_first_L40 fX5_first_L23
        rw [xsn, hx]
        simp only [e_side, e_count, e_kind, e_weight, e_cell, e_doors, e_fan, e_warm, e_hour, e_beam, e_chance, e_seed, f_n, f_motes, f_kind, f_own, f_cell, f_doors, f_ways, f_seed, u_gd (show j < 10 by omega) (show 10 < 2 ^ 31 by decide), u_ix (show j < 2 ^ 31 by omega), if_neg (nI_ge hj (show c < 2 ^ 31 by omega))]
        by_cases q : nI v = 0
        · rw [if_pos q, if_pos q]
          obtain ⟨g2, e1⟩ := x_pw (S := xs_sets S g) hx h hj
          rw [e1, m_pw h hj]
          simp only [bs]
          rw [xss]
          have := pw_le (w := w) (m := j) hc
          exact step _ g2 (by omega)
        · rw [if_neg q, if_neg q]
          have := (h.m hj).2.1
          exact step _ g (by omega)
  exact q c 0 FU 0 (cI (-1)) (cI (-1)) (x_sets S) (by omega) (by show c < 1100; omega) (fun _ => rfl) (by omega)
end D0
