/-! ===== pure layer: the class's hall ===== -/
abbrev HP (n d f wm b hr : Nat) : Prop := (6 ≤ n ∧ n ≤ 7) ∧ d < 16 ∧ f ≤ 4 ∧ wm ≤ 9 ∧ hr ≤ 999 ∧ b ≤ 6
def mx (n d f wm b hr : Nat) (k l : Nat → Nat) (j : Nat) : Nat → Nat := fun i => if i < j then nxt n d f wm b hr (k i) (l i) else l i
def lw (n b hr c : Nat) (w l : Nat → Nat) : Nat := sm (fun i => if lit n b hr (l i) then w i else 0) c
def lc (n b hr c : Nat) (l : Nat → Nat) : Nat := sm (fun i => if lit n b hr (l i) then 1 else 0) c
def cin (c : Nat) (l : Nat → Nat) (x : Nat) : Nat := sm (fun i => if l i = x then 1 else 0) c
section X1
variable {n c : Nat} {k w l : Nat → Nat} {d f wm hr b ch : Nat} {sd : Int32}
theorem HI.hp (h : HI n c k w l d f wm hr b ch) : HP n d f wm b hr := ⟨h.1, h.2.2.2.1, h.2.2.2.2.1, h.2.2.2.2.2.1, h.2.2.2.2.2.2.1, h.2.2.2.2.2.2.2.1⟩
theorem HI.hc (h : HI n c k w l d f wm hr b ch) : c ≤ 10 := h.2.1
theorem HI.m (h : HI n c k w l d f wm hr b ch) {i : Nat} (hi : i < c) : k i ≤ 5 ∧ w i ≤ 9 ∧ isC n (l i) := h.2.2.1 i hi
theorem HI.hch (h : HI n c k w l d f wm hr b ch) : ch ≤ 12 := h.2.2.2.2.2.2.2.2.1
theorem HI.z (h : HI n c k w l d f wm hr b ch) {i : Nat} (hi : 10 ≤ i) : k i = 0 ∧ w i = 0 ∧ l i = 0 := h.2.2.2.2.2.2.2.2.2 i hi
theorem HI.mk' (hp : HP n d f wm b hr) (hc : c ≤ 10) (hm : ∀ i, i < c → k i ≤ 5 ∧ w i ≤ 9 ∧ isC n (l i)) (hch : ch ≤ 12) (hz : ∀ i, 10 ≤ i → k i = 0 ∧ w i = 0 ∧ l i = 0) : HI n c k w l d f wm hr b ch := ⟨hp.1, hc, hm, hp.2.1, hp.2.2.1, hp.2.2.2.1, hp.2.2.2.2.1, hp.2.2.2.2.2, hch, hz⟩
theorem HI.par {d' f' wm' b' hr' : Nat} (h : HI n c k w l d f wm hr b ch) (hp : HP n d' f' wm' b' hr') : HI n c k w l d' f' wm' hr' b' ch := HI.mk' hp h.hc (fun _ hi => h.m hi) h.hch (fun _ hi => h.z hi)
theorem HI.cells {l' : Nat → Nat} (h : HI n c k w l d f wm hr b ch) (hl : ∀ i, i < c → isC n (l' i)) (hl2 : ∀ i, c ≤ i → l' i = l i) : HI n c k w l' d f wm hr b ch := HI.mk' h.hp h.hc (fun i hi => ⟨(h.m hi).1, (h.m hi).2.1, hl i hi⟩) h.hch (fun i hi => ⟨(h.z hi).1, (h.z hi).2.1, by rw [hl2 i (by have := h.hc; omega)]; exact (h.z hi).2.2⟩)
theorem xn {x kk : Nat} (hp : HP n d f wm b hr) (hk : kk ≤ 5) (hx : isC n x) : fX1_next (nI kk) (nI x) (eH n c k w l d f wm hr b ch sd) = some (nI (nxt n d f wm b hr kk x)) := x_nxt hp.1.1 hp.1.2 hp.2.1 hp.2.2.1 hp.2.2.2.2.1 hp.2.2.2.1 hp.2.2.2.2.2 hk hx
theorem nC {x kk : Nat} (hp : HP n d f wm b hr) (hx : isC n x) : isC n (nxt n d f wm b hr kk x) := nxt_C hp.1.1 hp.1.2 hp.2.1 hp.2.2.1 hx
theorem wC {x kk t : Nat} (hp : HP n d f wm b hr) (hx : isC n x) : isC n (wk n d f wm b hr kk x t) := wk_C hp.1.1 hp.1.2 hp.2.1 hp.2.2.1 hx
theorem xlit {x : Nat} (hp : HP n d f wm b hr) (hx : isC n x) : fX1_isLit (nI x) (eH n c k w l d f wm hr b ch sd) = some (if lit n b hr x then (1 : Int32) else 0) := x_lit hp.1.1 hp.1.2 hp.2.2.2.2.1 hp.2.2.2.2.2 (by have := isC_lt hp.1.2 hx; omega)
theorem HP.aft {t : Nat} (hp : HP n d f wm b hr) : HP n d f wm b (hrs hr t) := ⟨hp.1, hp.2.1, hp.2.2.1, hp.2.2.2.1, hrs_le, hp.2.2.2.2.2⟩
theorem HI.after {t : Nat} (h : HI n c k w l d f wm hr b ch) : HI n c k w (cl n c k l d f wm b hr t) d f wm (hrs hr t) b ch :=
  (h.cells (l' := cl n c k l d f wm b hr t) (fun i hi => by
    unfold cl
    rw [if_pos hi]
    exact wC h.hp (h.m hi).2.2) (fun i hi => if_neg (by omega))).par h.hp.aft
theorem cl_0 : cl n c k l d f wm b hr 0 = l := by
  funext i
  unfold cl
  split <;> rfl
theorem cl_in {t i : Nat} (hi : i < c) : cl n c k l d f wm b hr t i = wk n d f wm b hr (k i) (l i) t := if_pos hi
theorem mx_0 : mx n d f wm b hr k l 0 = l := funext fun i => if_neg (Nat.not_lt_zero i)
theorem mx_cl {t : Nat} : mx n d f wm b (hrs hr t) k (cl n c k l d f wm b hr t) c = cl n c k l d f wm b hr (t + 1) := by
  funext i
  unfold mx cl
  by_cases hi : i < c
  · rw [if_pos hi, if_pos hi, if_pos hi]
    rfl
  · rw [if_neg hi, if_neg hi, if_neg hi]
theorem x_ph (hh : hr ≤ 999) : fX1_passHour (eH n c k w l d f wm hr b ch sd) = some (eH n c k w l d f wm (hrs hr 1) b ch sd) := by
  unfold fX1_passHour jmin
  simp only [e_side, e_count, e_kind, e_weight, e_cell, e_doors, e_fan, e_warm, e_hour, e_beam, e_chance, e_seed, Option.bind_some]
  rw [nI_1]
  unfold hrs
  by_cases h : hr + 1 < 999
  · rw [if_neg (show ¬ (999 : Int32) < nI (hr + 1) from nI_nlt (a := 999) (b := hr + 1) (by omega) (by omega)), if_pos h]
    rfl
  · rw [if_neg h]
    by_cases h2 : hr = 999
    · rw [if_pos (show (999 : Int32) < nI (hr + 1) from nI_lt (a := 999) (b := hr + 1) (by omega) (by omega))]
      rfl
    · rw [if_neg (show ¬ (999 : Int32) < nI (hr + 1) from nI_nlt (a := 999) (b := hr + 1) (by omega) (by omega))]
      have e : hr + 1 = 999 := by omega
      rw [e]
      rfl
theorem x_goOn9 {k2 : Int32 → HallT → Option HallT} {p1 v2 : Int32} (h : HI n c k w l d f wm hr b ch) : ∀ (r j fu : Nat), j + r = c → r < fu → fX1_goOn_L9 k2 p1 fu v2 (nI j) (eH n c k w (mx n d f wm b hr k l j) d f wm hr b ch sd) = fX1_goOn_j45 k2 p1 v2 (eH n c k w (mx n d f wm b hr k l c) d f wm hr b ch sd) := by
  have hc := h.hc
  intro r
  induction r with
  | zero =>
    intro j fu e hf
    obtain rfl : j = c := by omega
    cases fu with
    | zero => omega
    | succ fu =>
      unfold fX1_goOn_L9
      simp only [e_side, e_count, e_kind, e_weight, e_cell, e_doors, e_fan, e_warm, e_hour, e_beam, e_chance, e_seed]
      rw [if_pos (nI_le (Nat.le_refl _) (by omega))]
  | succ r ih =>
    intro j fu e hf
    cases fu with
    | zero => omega
    | succ fu =>
      have hj : j < c := by omega
      have e1 : mx n d f wm b hr k l j j = l j := if_neg (Nat.lt_irrefl j)
      unfold fX1_goOn_L9
      simp only [e_side, e_count, e_kind, e_weight, e_cell, e_doors, e_fan, e_warm, e_hour, e_beam, e_chance, e_seed, u_gd (show j < 10 by omega) (show 10 < 2 ^ 31 by decide), u_ix (show j < 2 ^ 31 by omega)]
      rw [if_neg (nI_ge hj (by omega)), e1, xn h.hp (h.m hj).1 (h.m hj).2.2]
      simp only [Option.bind_some]
      rw [u_upd (l' := mx n d f wm b hr k l (j + 1)) (fun i hi => by
        unfold mx
        by_cases q : i < j
        · rw [if_pos q, if_pos (by omega)]
        · rw [if_neg q, if_neg (by omega)]) (if_pos (Nat.lt_succ_self j)), nI_1]
      exact ih (j + 1) fu (by omega) (by omega)
theorem x_goOn2 {t : Nat} (h : HI n c k w l d f wm hr b ch) (ht : t ≤ 1000) : ∀ (r i fu : Nat), i + r = t → r < fu → fX1_goOn_L2 (nI t) fu (nI i) (eH n c k w (cl n c k l d f wm b hr i) d f wm (hrs hr i) b ch sd) = some (eH n c k w (cl n c k l d f wm b hr t) d f wm (hrs hr t) b ch sd) := by
  have hc := h.hc
  intro r
  induction r with
  | zero =>
    intro i fu e hf
    obtain rfl : i = t := by omega
    cases fu with
    | zero => omega
    | succ fu =>
      unfold fX1_goOn_L2
      rw [if_pos (nI_le (Nat.le_refl _) (by omega))]
  | succ r ih =>
    intro i fu e hf
    cases fu with
    | zero => omega
    | succ fu =>
      unfold fX1_goOn_L2
      rw [if_neg (nI_ge (show i < t by omega) (by omega))]
      have q := x_goOn9 (k2 := fun v2 S0 => fX1_goOn_L2 (nI t) fu v2 S0) (p1 := nI t) (v2 := nI i) (sd := sd) (h.after (t := i)) c 0 FU (by omega) (by show c < 1100; omega)
      rw [mx_0, mx_cl] at q
      refine q.trans ?_
      unfold fX1_goOn_j45
      rw [x_ph hrs_le]
      simp only [Option.bind_some]
      rw [hrs_s, nI_1]
      exact ih (i + 1) fu (by omega) (by omega)
theorem x_goOn {t : Nat} (h : HI n c k w l d f wm hr b ch) (ht : t ≤ 1000) : fX1_goOn (nI t) (eH n c k w l d f wm hr b ch sd) = some (eH n c k w (cl n c k l d f wm b hr t) d f wm (hrs hr t) b ch sd) := by
  have q := x_goOn2 (sd := sd) h ht t 0 FU (by omega) (by show t < 1100; omega)
  rw [cl_0, hrs_0 h.hp.2.2.2.2.1] at q
  exact q
theorem x_goOn1 {t : Nat} (h : HI n c k w l d f wm hr b ch) : fX1_goOn (1 : Int32) (eH n c k w (cl n c k l d f wm b hr t) d f wm (hrs hr t) b ch sd) = some (eH n c k w (cl n c k l d f wm b hr (t + 1)) d f wm (hrs hr (t + 1)) b ch sd) := by
  have q := x_goOn (t := 1) (sd := sd) (h.after (t := t)) (by omega)
  have e : cl n c k (cl n c k l d f wm b hr t) d f wm b (hrs hr t) 1 = cl n c k l d f wm b hr (t + 1) := by
    funext i
    by_cases hi : i < c
    · rw [cl_in hi, cl_in hi, cl_in hi]
      show nxt n d f wm b (hrs (hrs hr t) 0) _ _ = nxt n d f wm b (hrs hr t) _ _
      rw [hrs_0 hrs_le]
      rfl
    · unfold cl
      rw [if_neg hi, if_neg hi, if_neg hi]
  rw [e, hrs_s] at q
  exact q
/-! sums -/
theorem x_wia (hc : c ≤ 10) : fX1_weightInAll (eH n c k w l d f wm hr b ch sd) = some (nI (sm w c)) := by
  have q : ∀ (r j fu : Nat), j + r = c → r < fu → fX1_weightInAll_L4 (eH n c k w l d f wm hr b ch sd) fu (nI (sm w j)) (nI j) = some (nI (sm w c)) := by
    intro r
    induction r with
    | zero =>
      intro j fu e hf
      obtain rfl : j = c := by omega
      cases fu with
      | zero => omega
      | succ fu =>
        unfold fX1_weightInAll_L4
        simp only [e_side, e_count, e_kind, e_weight, e_cell, e_doors, e_fan, e_warm, e_hour, e_beam, e_chance, e_seed]
        rw [if_pos (nI_le (Nat.le_refl _) (by omega))]
    | succ r ih =>
      intro j fu e hf
      cases fu with
      | zero => omega
      | succ fu =>
        have hj : j < c := by omega
        unfold fX1_weightInAll_L4
        simp only [e_side, e_count, e_kind, e_weight, e_cell, e_doors, e_fan, e_warm, e_hour, e_beam, e_chance, e_seed, u_gd (show j < 10 by omega) (show 10 < 2 ^ 31 by decide), u_ix (show j < 2 ^ 31 by omega)]
        rw [if_neg (nI_ge hj (by omega)), nI_add, nI_1]
        exact ih (j + 1) fu (by omega) (by omega)
  exact q c 0 FU (by omega) (by show c < 1100; omega)
theorem x_lw (h : HI n c k w l d f wm hr b ch) : fX1_litWeight (eH n c k w l d f wm hr b ch sd) = some (nI (lw n b hr c w l)) := by
  have hc := h.hc
  have q : ∀ (r j fu : Nat), j + r = c → r < fu → fX1_litWeight_L4 (eH n c k w l d f wm hr b ch sd) fu (nI (lw n b hr j w l)) (nI j) = some (nI (lw n b hr c w l)) := by
    intro r
    induction r with
    | zero =>
      intro j fu e hf
      obtain rfl : j = c := by omega
      cases fu with
      | zero => omega
      | succ fu =>
        unfold fX1_litWeight_L4
        simp only [e_side, e_count, e_kind, e_weight, e_cell, e_doors, e_fan, e_warm, e_hour, e_beam, e_chance, e_seed]
        rw [if_pos (nI_le (Nat.le_refl _) (by omega))]
    | succ r ih =>
      intro j fu e hf
      cases fu with
      | zero => omega
      | succ fu =>
        have hj : j < c := by omega
        have ih' := ih (j + 1) fu (by omega) (by omega)
        unfold fX1_litWeight_L4 fX1_litWeight_j36
        simp only [e_side, e_count, e_kind, e_weight, e_cell, e_doors, e_fan, e_warm, e_hour, e_beam, e_chance, e_seed, u_gd (show j < 10 by omega) (show 10 < 2 ^ 31 by decide), u_ix (show j < 2 ^ 31 by omega)]
        rw [if_neg (nI_ge hj (by omega)), xlit h.hp (h.m hj).2.2]
        simp only [Option.bind_some]
        unfold lw at ih' ⊢
        rw [sm] at ih'
        by_cases hl : lit n b hr (l j)
        · rw [if_pos hl] at ih' ⊢
          rw [if_neg (by decide), nI_add, nI_1]
          exact ih'
        · rw [if_neg hl] at ih' ⊢
          rw [if_pos rfl, show nI (sm (fun i => if lit n b hr (l i) then w i else 0) j) + (0 : Int32) = nI (sm (fun i => if lit n b hr (l i) then w i else 0) j + 0) from nI_add _ 0, nI_1]
          exact ih'
  exact q c 0 FU (by omega) (by show c < 1100; omega)
theorem x_lc (h : HI n c k w l d f wm hr b ch) : fX1_litCount (eH n c k w l d f wm hr b ch sd) = some (nI (lc n b hr c l)) := by
  have hc := h.hc
  have q : ∀ (r j fu : Nat), j + r = c → r < fu → fX1_litCount_L4 (eH n c k w l d f wm hr b ch sd) fu (nI (lc n b hr j l)) (nI j) = some (nI (lc n b hr c l)) := by
    intro r
    induction r with
    | zero =>
      intro j fu e hf
      obtain rfl : j = c := by omega
      cases fu with
      | zero => omega
      | succ fu =>
        unfold fX1_litCount_L4
        simp only [e_side, e_count, e_kind, e_weight, e_cell, e_doors, e_fan, e_warm, e_hour, e_beam, e_chance, e_seed]
        rw [if_pos (nI_le (Nat.le_refl _) (by omega))]
    | succ r ih =>
      intro j fu e hf
      cases fu with
      | zero => omega
      | succ fu =>
        have hj : j < c := by omega
        have ih' := ih (j + 1) fu (by omega) (by omega)
        unfold fX1_litCount_L4 fX1_litCount_j31
        simp only [e_side, e_count, e_kind, e_weight, e_cell, e_doors, e_fan, e_warm, e_hour, e_beam, e_chance, e_seed, u_gd (show j < 10 by omega) (show 10 < 2 ^ 31 by decide), u_ix (show j < 2 ^ 31 by omega)]
        rw [if_neg (nI_ge hj (by omega)), xlit h.hp (h.m hj).2.2]
        simp only [Option.bind_some]
        unfold lc at ih' ⊢
        rw [sm] at ih'
        by_cases hl : lit n b hr (l j)
        · rw [if_pos hl] at ih' ⊢
          rw [if_neg (by decide), nI_1, nI_1]
          exact ih'
        · rw [if_neg hl] at ih' ⊢
          rw [if_pos rfl, show nI (sm (fun i => if lit n b hr (l i) then 1 else 0) j) + (0 : Int32) = nI (sm (fun i => if lit n b hr (l i) then 1 else 0) j + 0) from nI_add _ 0, nI_1]
          exact ih'
  exact q c 0 FU (by omega) (by show c < 1100; omega)
theorem x_cin {x : Nat} (h : HI n c k w l d f wm hr b ch) (hx : x < 100) : fX1_countIn (nI x) (eH n c k w l d f wm hr b ch sd) = some (nI (cin c l x)) := by
  have hc := h.hc
  have q : ∀ (r j fu : Nat), j + r = c → r < fu → fX1_countIn_L4 (nI x) (eH n c k w l d f wm hr b ch sd) fu (nI (cin j l x)) (nI j) = some (nI (cin c l x)) := by
    intro r
    induction r with
    | zero =>
      intro j fu e hf
      obtain rfl : j = c := by omega
      cases fu with
      | zero => omega
      | succ fu =>
        unfold fX1_countIn_L4
        simp only [e_side, e_count, e_kind, e_weight, e_cell, e_doors, e_fan, e_warm, e_hour, e_beam, e_chance, e_seed]
        rw [if_pos (nI_le (Nat.le_refl _) (by omega))]
    | succ r ih =>
      intro j fu e hf
      cases fu with
      | zero => omega
      | succ fu =>
        have hj : j < c := by omega
        have ih' := ih (j + 1) fu (by omega) (by omega)
        have h67 := isC_lt h.hp.1.2 (h.m hj).2.2
        unfold fX1_countIn_L4 fX1_countIn_j28
        simp only [e_side, e_count, e_kind, e_weight, e_cell, e_doors, e_fan, e_warm, e_hour, e_beam, e_chance, e_seed, u_gd (show j < 10 by omega) (show 10 < 2 ^ 31 by decide), u_ix (show j < 2 ^ 31 by omega)]
        rw [if_neg (nI_ge hj (by omega)), u_if (nI_eq (a := l j) (b := x) (by omega) (by omega))]
        unfold cin at ih' ⊢
        rw [sm] at ih'
        by_cases hl : l j = x
        · rw [if_pos hl] at ih' ⊢
          rw [nI_1, nI_1]
          exact ih'
        · rw [if_neg hl] at ih' ⊢
          rw [show nI (sm (fun i => if l i = x then 1 else 0) j) + (0 : Int32) = nI (sm (fun i => if l i = x then 1 else 0) j + 0) from nI_add _ 0, nI_1]
          exact ih'
  exact q c 0 FU (by omega) (by show c < 1100; omega)
theorem lw_le (h : HI n c k w l d f wm hr b ch) {hr' b' : Nat} {l' : Nat → Nat} : lw n b' hr' c w l' ≤ 90 := by
  have hc := h.hc
  have q : lw n b' hr' c w l' ≤ c * 9 := sm_le (fun i hi => by
    have := (h.m hi).2.1
    split <;> omega)
  omega
theorem wia_le (h : HI n c k w l d f wm hr b ch) : sm w c ≤ 90 := by
  have hc := h.hc
  have q : sm w c ≤ c * 9 := sm_le (fun i hi => (h.m hi).2.1)
  omega
theorem x_car (h : HI n c k w l d f wm hr b ch) : fX1_carries (eH n c k w l d f wm hr b ch sd) = some (if sm w c < 2 * lw n b hr c w l then (1 : Int32) else 0) := by
  have h1 := lw_le h (hr' := hr) (b' := b) (l' := l)
  have h2 := wia_le h
  unfold fX1_carries
  rw [x_lw h, x_wia h.hc]
  simp only [Option.bind_some]
  rw [show (2 : Int32) * nI (lw n b hr c w l) = nI (2 * lw n b hr c w l) from pk_mul 2 _, u_if (nI_leI (a := 2 * lw n b hr c w l) (b := sm w c) (by omega) (by omega))]
  by_cases q : sm w c < 2 * lw n b hr c w l
  · rw [if_pos q, if_neg (by omega)]
  · rw [if_neg q, if_pos (by omega)]
end X1
