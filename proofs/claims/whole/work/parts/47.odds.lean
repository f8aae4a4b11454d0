/-! ===== pure layer: odds by draughts ===== -/
def pr (ch v : Nat) : Nat → Nat
  | 0 => 1
  | j + 1 => pr ch v j * (if v / 2 ^ j % 2 = 1 then ch else 12 - ch)
theorem pr_sum : ∀ ch, ch < 13 → sm (fun v => pr ch v 4) 16 = 20736 := by decide +kernel
theorem pr_lt : ∀ ch, ch < 13 → ∀ v, v < 16 → pr ch v 4 ≤ 20736 := by decide +kernel
theorem sm_mul {f : Nat → Nat} {a : Nat} : ∀ {r : Nat}, sm (fun i => f i * a) r = sm f r * a
  | 0 => (Nat.zero_mul a).symm
  | r + 1 => by rw [sm, sm, sm_mul, Nat.add_mul]
def q_sc (Q : QT) : Nat → Int32 := Q.2.2.2.2.2.2.2.1
def q_sh (Q : QT) : Nat → Int32 := Q.2.2.2.2.2.2.2.2.1
def q_ca (Q : QT) : Int64 := Q.2.2.2.2.2.2.2.2.2.1
def q_mv (Q : QT) : Int64 := Q.2.2.2.2.2.2.2.2.2.2
def qs_sc (Q : QT) (v : Nat → Int32) : QT := (Q.1, Q.2.1, Q.2.2.1, Q.2.2.2.1, Q.2.2.2.2.1, Q.2.2.2.2.2.1, Q.2.2.2.2.2.2.1, v, Q.2.2.2.2.2.2.2.2)
def qs_sh (Q : QT) (v : Nat → Int32) : QT := (Q.1, Q.2.1, Q.2.2.1, Q.2.2.2.1, Q.2.2.2.2.1, Q.2.2.2.2.2.1, Q.2.2.2.2.2.2.1, Q.2.2.2.2.2.2.2.1, v, Q.2.2.2.2.2.2.2.2.2)
def qs_ca (Q : QT) (v : Int64) : QT := (Q.1, Q.2.1, Q.2.2.1, Q.2.2.2.1, Q.2.2.2.2.1, Q.2.2.2.2.2.1, Q.2.2.2.2.2.2.1, Q.2.2.2.2.2.2.2.1, Q.2.2.2.2.2.2.2.2.1, v, Q.2.2.2.2.2.2.2.2.2.2)
def qs_mv (Q : QT) (v : Int64) : QT := (Q.1, Q.2.1, Q.2.2.1, Q.2.2.2.1, Q.2.2.2.2.1, Q.2.2.2.2.2.1, Q.2.2.2.2.2.2.1, Q.2.2.2.2.2.2.2.1, Q.2.2.2.2.2.2.2.2.1, Q.2.2.2.2.2.2.2.2.2.1, v)
/-- per way: how many carry, how many votes in all, by r draughts -/
def cC (n c : Nat) (k w : Nat → Nat) (f wm b ch : Nat) : Nat → (Nat → Nat) → Nat → Nat
  | 0, l, hr => if sm w c < 2 * lw n b hr c w l then 1 else 0
  | r + 1, l, hr => sm (fun v => pr ch v 4 * cC n c k w f wm b ch r (cl n c k l v f wm b hr 1) (hrs hr 1)) 16
def vV (n c : Nat) (k w : Nat → Nat) (f wm b ch : Nat) : Nat → (Nat → Nat) → Nat → Nat
  | 0, l, hr => lw n b hr c w l
  | r + 1, l, hr => sm (fun v => pr ch v 4 * vV n c k w f wm b ch r (cl n c k l v f wm b hr 1) (hrs hr 1)) 16
def aA : Nat → Nat
  | 0 => 1
  | r + 1 => 20736 * aA r
def ad (W : DwT) (a x v : Nat) : DwT := (dw_all W + lN a, dw_carried W + lN x, dw_voted W + lN v)
theorem i64_assoc (x : Int64) (a b : Nat) : x + lN a + lN b = x + lN (a + b) := by rw [Int64.add_assoc, lN_add]
theorem ad_ad {W : DwT} {a x v a' x' v' : Nat} : ad (ad W a x v) a' x' v' = ad W (a + a') (x + x') (v + v') := by
  show (dw_all W + lN a + lN a', dw_carried W + lN x + lN x', dw_voted W + lN v + lN v') = _
  rw [i64_assoc, i64_assoc, i64_assoc]
  rfl
theorem ad_0 {W : DwT} : ad W 0 0 0 = W := by
  show (dw_all W + 0, dw_carried W + 0, dw_voted W + 0) = W
  rw [Int64.add_zero, Int64.add_zero, Int64.add_zero]
  rfl
section D2
variable {n c : Nat} {k w l : Nat → Nat} {d f wm hr b ch : Nat} {sd : Int32} {P : PT} {Q : QT} {S : XT} {M : MT} {p1 p2 p3 p4 p5 : Int32}
theorem f_sc : m_stackCell (eM n c k w l d f wm hr b ch sd P Q) = q_sc Q := id rfl
theorem f_sh : m_stackHour (eM n c k w l d f wm hr b ch sd P Q) = q_sh Q := id rfl
theorem f_ca : m_carried (eM n c k w l d f wm hr b ch sd P Q) = q_ca Q := id rfl
theorem f_mv : m_meanVotes (eM n c k w l d f wm hr b ch sd P Q) = q_mv Q := id rfl
theorem fs_sc {v : Nat → Int32} : ms_stackCell (eM n c k w l d f wm hr b ch sd P Q) v = eM n c k w l d f wm hr b ch sd P (qs_sc Q v) := id rfl
theorem fs_sh {v : Nat → Int32} : ms_stackHour (eM n c k w l d f wm hr b ch sd P Q) v = eM n c k w l d f wm hr b ch sd P (qs_sh Q v) := id rfl
theorem fs_ca {v : Int64} : ms_carried (eM n c k w l d f wm hr b ch sd P Q) v = eM n c k w l d f wm hr b ch sd P (qs_ca Q v) := id rfl
theorem fs_mv {v : Int64} : ms_meanVotes (eM n c k w l d f wm hr b ch sd P Q) v = eM n c k w l d f wm hr b ch sd P (qs_mv Q v) := id rfl
theorem dgg {g : Nat → HallT} {W : DwT} : d_deep ((g, W) : DrT) = g := id rfl
theorem dgw {g : Nat → HallT} {W : DwT} : d_w ((g, W) : DrT) = W := id rfl
theorem dsg {g g' : Nat → HallT} {W : DwT} : ds_deep ((g, W) : DrT) g' = (g', W) := id rfl
theorem dsw {g : Nat → HallT} {W W' : DwT} : ds_w ((g, W) : DrT) W' = (g, W') := id rfl
theorem x_ta {ways : Nat} {W : DwT} (h : HI n c k w l d f wm hr b ch) : fX0_tally (lN ways) W (eH n c k w l d f wm hr b ch sd) = some (ad W ways (ways * cC n c k w f wm b ch 0 l hr) (ways * vV n c k w f wm b ch 0 l hr)) := by
  have h1 := lw_le h (hr' := hr) (b' := b) (l' := l)
  have h2 := wia_le h
  obtain ⟨w1, w2, w3⟩ := W
  unfold fX0_tally fX0_tally_j51
  rw [x_lw h, x_wia h.hc]
  simp only [bs]
  rw [show (2 : Int32) * nI (lw n b hr c w l) = nI (2 * lw n b hr c w l) from pk_mul 2 _, u_if (nI_leI (a := 2 * lw n b hr c w l) (b := sm w c) (by omega) (by omega)), nI_l (show lw n b hr c w l < 2 ^ 31 by omega), lN_mul]
  unfold ad cC vV
  by_cases q : sm w c < 2 * lw n b hr c w l
  · rw [if_pos q, if_neg (by omega), Nat.mul_one]
    rfl
  · rw [if_neg q, if_pos (by omega), Nat.mul_zero]
    rfl
theorem x_wo {v : Nat} (hv : v < 16) (hc : ch ≤ 12) : fX0_waysOf (nI v) (nI ch) = some (lN (pr ch v 4)) := by
  have q : ∀ (r j fu : Nat), j + r = 4 → r < fu → fX0_waysOf_L5 (nI v) (nI ch) fu (lN (pr ch v j)) (nI j) = some (lN (pr ch v 4)) := by
    intro r
    induction r with
    | zero =>
      intro j fu e hf
      obtain rfl : j = 4 := by omega
      cases fu with
      | zero => omega
      | succ fu =>
        unfold fX0_waysOf_L5
        rw [if_pos (show (4 : Int32) ≤ nI 4 by decide)]
    | succ r ih =>
      intro j fu e hf
      cases fu with
      | zero => omega
      | succ fu =>
        have ih' := ih (j + 1) fu (by omega) (by omega)
        rw [pr] at ih'
        unfold fX0_waysOf_L5 fX0_waysOf_j32
        rw [if_neg (show ¬ (4 : Int32) ≤ nI j from nI_ge (a := j) (b := 4) (by omega) (by omega)), u_if (sbit (s := v) (by omega) (show j < 10 by omega)), nI_l (show ch < 2 ^ 31 by omega), show (12 : Int32) - nI ch = nI (12 - ch) from pk_sub (a := 12) (b := ch) hc, nI_l (show 12 - ch < 2 ^ 31 by omega), lN_mul, lN_mul, nI_1]
        by_cases q : v / 2 ^ j % 2 = 1
        · rw [if_pos q] at ih' ⊢
          exact ih'
        · rw [if_neg q] at ih' ⊢
          exact ih'
  exact q 4 0 FU (by omega) (by show 4 < 1100; omega)
/-- the halls of the depths: all but places, hour and doors as the first -/
def DI (n c : Nat) (k w : Nat → Nat) (f wm b ch : Nat) (sd : Int32) (g : Nat → HallT) : Prop := ∀ j, j < 4 → ∃ l' d' hr', g j = eH n c k w l' d' f wm hr' b ch sd ∧ ∀ i, 10 ≤ i → l' i = 0
theorem x_br {t : Nat} (ht : t ≤ 3) : ∀ (r dep fu ways : Nat) (g : Nat → HallT) (W : DwT) (l : Nat → Nat) (d hr : Nat), dep + r = t → r < fu → HI n c k w l d f wm hr b ch → g dep = (eH n c k w l d f wm hr b ch sd) → DI n c k w f wm b ch sd g → ∃ g', fX0_branch fu (nI dep) (nI t) (lN ways) (g, W) = some (g', ad W (ways * aA r) (ways * cC n c k w f wm b ch r l hr) (ways * vV n c k w f wm b ch r l hr)) ∧ DI n c k w f wm b ch sd g' ∧ ∀ j, j ≤ dep → g' j = g j := by
  intro r
  induction r with
  | zero =>
    intro dep fu ways g W l d hr e hf h hg hD
    obtain rfl : dep = t := by omega
    cases fu with
    | zero => omega
    | succ fu =>
      refine ⟨g, ?_, hD, fun j _ => rfl⟩
      unfold fX0_branch fX0_branch_j38
      rw [if_neg (nI_pos (by omega)), if_pos (show nI dep < (4 : Int32) from nI_lt (a := dep) (b := 4) (by omega) (by omega)), u_gd (by omega) (by omega), if_pos (nI_le (Nat.le_refl _) (by omega)), dgg, dgw, u_ix (by omega), hg, x_ta h]
      simp only [bs]
      rw [dsw, show ways * aA 0 = ways from Nat.mul_one ways]
  | succ r ih =>
    intro dep fu ways g W l d hr e hf h hg hD
    cases fu with
    | zero => omega
    | succ fu =>
      have hch := h.hch
      have loop : ∀ (s v fu2 : Nat) (g : Nat → HallT), v + s = 16 → s < fu2 → g dep = (eH n c k w l d f wm hr b ch sd) → DI n c k w f wm b ch sd g → ∃ g', fX0_branch_L59 (fX0_branch fu) (nI dep) (nI t) (lN ways) fu2 (nI v) (g, ad W (ways * (sm (fun v => pr ch v 4) v * aA r)) (ways * sm (fun v => pr ch v 4 * cC n c k w f wm b ch r (cl n c k l v f wm b hr 1) (hrs hr 1)) v) (ways * sm (fun v => pr ch v 4 * vV n c k w f wm b ch r (cl n c k l v f wm b hr 1) (hrs hr 1)) v)) = some (g', ad W (ways * aA (r + 1)) (ways * cC n c k w f wm b ch (r + 1) l hr) (ways * vV n c k w f wm b ch (r + 1) l hr)) ∧ DI n c k w f wm b ch sd g' ∧ ∀ j, j ≤ dep → g' j = g j := by
        intro s
        induction s with
        | zero =>
          intro v fu2 g e2 hf2 hg hD
          obtain rfl : v = 16 := by omega
          cases fu2 with
          | zero => omega
          | succ fu2 =>
            refine ⟨g, ?_, hD, fun j _ => rfl⟩
            unfold fX0_branch_L59
            rw [if_pos (show (16 : Int32) ≤ nI 16 by decide), pr_sum ch (by omega)]
            rfl
        | succ s ihs =>
          intro v fu2 g e2 hf2 hg hD
          cases fu2 with
          | zero => omega
          | succ fu2 =>
            have hp := pr_lt ch (by omega) v (by omega)
            have ihs' := ihs (v + 1) fu2
            rw [sm, sm, sm] at ihs'
            unfold fX0_branch_L59 fX0_branch_j117
            rw [if_neg (show ¬ (16 : Int32) ≤ nI v from nI_ge (a := v) (b := 16) (by omega) (by omega)), dgg, u_ix (show dep < 2 ^ 31 by omega), hg, e_chance, x_wo (by omega) hch]
            simp only [bs, lg_cmp_le]
            rw [nI_1, nI_1, u_ix (show dep + 1 < 2 ^ 31 by omega)]
            by_cases q0 : pr ch v 4 = 0
            · rw [if_pos (show lN (pr ch v 4) ≤ 0 by rw [q0]; decide)]
              rw [q0, Nat.add_zero, Nat.zero_mul, Nat.zero_mul, Nat.add_zero, Nat.add_zero] at ihs'
              exact ihs' g (by omega) (by omega) hg hD
            · rw [if_neg (show ¬ lN (pr ch v 4) ≤ 0 from fun z => q0 (by
                have := (pk_lLE (a := pr ch v 4) (b := 0) (by omega) (by omega)).mp z
                omega))]
              obtain ⟨l', d', hr', eg, hz⟩ := hD (dep + 1) (by omega)
              have hv' : HI n c k w l v f wm hr b ch := h.par ⟨h.hp.1, by omega, h.hp.2.2⟩
              have hT : Zh (g (dep + 1)) := by
                rw [eg]
                intro j hj
                obtain ⟨z1, z2, z3⟩ := h.z hj
                refine ⟨?_, ?_, ?_⟩
                · show nI (k j) = 0
                  rw [z1]
                  rfl
                · show nI (w j) = 0
                  rw [z2]
                  rfl
                · show nI (l' j) = 0
                  rw [hz j hj]
                  rfl
              rw [x_place hT h.zh, eg, e_cell, e_hour, es_cell, es_hour]
              simp only [bs, dgg, dsg, va_up_self, es_doors]
              rw [show fX1_goOn (1 : Int32) (eH n c k w l v f wm hr b ch sd) = _ from x_goOn (t := 1) hv' (by omega), lN_mul]
              simp only [bs]
              have ha := hv'.after (t := 1)
              have up : ∀ (g : Nat → HallT) (j : Nat) (A B : HallT), va_up (va_up g j A) j B = va_up g j B := fun g j A B => by
                funext i
                unfold va_up
                split <;> rfl
              rw [up, up]
              have hg2 : va_up g (dep + 1) (eH n c k w (cl n c k l v f wm b hr 1) v f wm (hrs hr 1) b ch sd) (dep + 1) = eH n c k w (cl n c k l v f wm b hr 1) v f wm (hrs hr 1) b ch sd := va_up_self _ _ _
              have hD2 : DI n c k w f wm b ch sd (va_up g (dep + 1) (eH n c k w (cl n c k l v f wm b hr 1) v f wm (hrs hr 1) b ch sd)) := fun j hj => by
                by_cases q : j = dep + 1
                · subst q
                  rw [va_up_self]
                  exact ⟨_, _, _, rfl, fun i hi => (ha.z hi).2.2⟩
                · rw [va_up_ne _ _ q]
                  exact hD j hj
              obtain ⟨g3, b1, b2, b3⟩ := ih (dep + 1) fu (ways * pr ch v 4) (va_up g (dep + 1) (eH n c k w (cl n c k l v f wm b hr 1) v f wm (hrs hr 1) b ch sd)) (ad W (ways * (sm (fun v => pr ch v 4) v * aA r)) (ways * sm (fun v => pr ch v 4 * cC n c k w f wm b ch r (cl n c k l v f wm b hr 1) (hrs hr 1)) v) (ways * sm (fun v => pr ch v 4 * vV n c k w f wm b ch r (cl n c k l v f wm b hr 1) (hrs hr 1)) v)) _ _ _ (by omega) (by omega) ha hg2 hD2
              rw [b1]
              simp only [bs]
              rw [ad_ad, Nat.mul_assoc ways, Nat.mul_assoc ways, Nat.mul_assoc ways, ← Nat.mul_add, ← Nat.mul_add, ← Nat.mul_add, ← Nat.add_mul]
              have hg3 : g3 dep = (eH n c k w l d f wm hr b ch sd) := by
                rw [b3 dep (by omega), va_up_ne _ _ (by omega), hg]
              obtain ⟨g4, c1, c2, c3⟩ := ihs' g3 (by omega) (by omega) hg3 b2
              refine ⟨g4, c1, c2, fun j hj => ?_⟩
              rw [c3 j hj, b3 j (by omega), va_up_ne _ _ (by omega)]
      unfold fX0_branch
      rw [if_neg (nI_pos (by omega)), if_pos (show nI dep < (4 : Int32) from nI_lt (a := dep) (b := 4) (by omega) (by omega)), u_gd (by omega) (by omega), if_neg (nI_ge (show dep < t by omega) (by omega)), nI_1, if_pos (show nI (dep + 1) < (4 : Int32) from nI_lt (a := dep + 1) (b := 4) (by omega) (by omega)), u_gd (by omega) (by omega)]
      have := loop 16 0 FU g (by omega) (by show 16 < 1100; omega) hg hD
      rw [show sm (fun v => pr ch v 4) 0 = 0 from rfl, show sm (fun v => pr ch v 4 * cC n c k w f wm b ch r (cl n c k l v f wm b hr 1) (hrs hr 1)) 0 = 0 from rfl, show sm (fun v => pr ch v 4 * vV n c k w f wm b ch r (cl n c k l v f wm b hr 1) (hrs hr 1)) 0 = 0 from rfl, Nat.zero_mul, Nat.mul_zero, ad_0] at this
      exact this
theorem x_rk {t : Nat} {D : DrT} (ht : t ≤ 3) (h : HI n c k w l d f wm hr b ch) (hZ : ∀ i, i < 4 → Zh (d_deep D i)) : ∃ g', fX0_reckon (nI t) D (eH n c k w l d f wm hr b ch sd) = some (g', ad ((0, 0, 0) : DwT) (aA t) (cC n c k w f wm b ch t l hr) (vV n c k w f wm b ch t l hr)) ∧ ∀ i, i < 4 → Zh (g' i) := by
  obtain ⟨g, W⟩ := D
  have q : ∀ (r i fu : Nat) (g : Nat → HallT), i + r = 4 → r < fu → (∀ j, j < 4 → Zh (g j)) → (∀ j, j < i → g j = (eH n c k w l d f wm hr b ch sd)) → ∃ g', fX0_reckon_L17 (nI t) (eH n c k w l d f wm hr b ch sd) fu (nI i) (g, ((0, 0, 0) : DwT)) = some (g', ad ((0, 0, 0) : DwT) (aA t) (cC n c k w f wm b ch t l hr) (vV n c k w f wm b ch t l hr)) ∧ ∀ i, i < 4 → Zh (g' i) := by
    intro r
    induction r with
    | zero =>
      intro i fu g e hf hz hg
      obtain rfl : i = 4 := by omega
      cases fu with
      | zero => omega
      | succ fu =>
        unfold fX0_reckon_L17 fX0_reckon_j42
        rw [if_pos (show (4 : Int32) ≤ nI 4 by decide)]
        have hD : DI n c k w f wm b ch sd g := fun j hj => ⟨l, d, hr, hg j hj, fun i hi => (h.z hi).2.2⟩
        obtain ⟨g', b1, b2, b3⟩ := x_br (n := n) (c := c) (k := k) (w := w) (f := f) (wm := wm) (b := b) (ch := ch) (sd := sd) ht t 0 5 1 g ((0, 0, 0) : DwT) l d hr (by omega) (by omega) h (hg 0 (by omega)) hD
        rw [Nat.one_mul, Nat.one_mul, Nat.one_mul] at b1
        refine ⟨g', ?_, fun i hi => ?_⟩
        · rw [show fX0_branch 5 (0 : Int32) (nI t) (1 : Int64) (g, ((0, 0, 0) : DwT)) = _ from b1]
          rfl
        · obtain ⟨l', d', hr', e2, e3⟩ := b2 i hi
          rw [e2]
          intro j hj
          obtain ⟨z1, z2, z3⟩ := h.z hj
          refine ⟨?_, ?_, ?_⟩
          · show nI (k j) = 0
            rw [z1]
            rfl
          · show nI (w j) = 0
            rw [z2]
            rfl
          · show nI (l' j) = 0
            rw [e3 j hj]
            rfl
    | succ r ih =>
      intro i fu g e hf hz hg
      cases fu with
      | zero => omega
      | succ fu =>
        unfold fX0_reckon_L17
        rw [if_neg (show ¬ (4 : Int32) ≤ nI i from nI_ge (a := i) (b := 4) (by omega) (by omega)), u_gd (by omega) (by omega), dgg, u_ix (by omega), x_take (hz i (by omega)) h.zh]
        simp only [bs, dsg]
        rw [nI_1]
        refine ih (i + 1) fu _ (by omega) (by omega) (fun j hj => ?_) (fun j hj => ?_)
        · by_cases q : j = i
          · subst q
            rw [va_up_self]
            exact h.zh
          · rw [va_up_ne _ _ q]
            exact hz j hj
        · by_cases q : j = i
          · subst q
            rw [va_up_self]
          · rw [va_up_ne _ _ q]
            exact hg j (by omega)
  unfold fX0_reckon
  simp only [bs, dgw, dsw]
  exact q 4 0 FU g (by omega) (by show 4 < 1100; omega) hZ (fun j hj => by omega)
/-! the reference -/
theorem m_dr {t : Nat} (ht : t ≤ 3) : ∀ (r i fu rows : Nat) (Q : QT) (l : Nat → Nat) (d hr : Nat), i + r = t → r < fu → HI n c k w l d f wm hr b ch → ∃ (Q' : QT) (d' : Nat), fX5_draughts fu (nI i) (nI t) (lN rows) (eM n c k w l d f wm hr b ch sd P Q) = some (eM n c k w l d' f wm hr b ch sd P Q') ∧ q_ca Q' = q_ca Q + lN (rows * cC n c k w f wm b ch r l hr) ∧ q_mv Q' = q_mv Q + lN (rows * vV n c k w f wm b ch r l hr) ∧ (∀ x, x < 10 * i → q_sc Q' x = q_sc Q x) ∧ ∀ j, j < i → q_sh Q' j = q_sh Q j := by
  intro r
  induction r with
  | zero =>
    intro i fu rows Q l d hr e hf h
    obtain rfl : i = t := by omega
    have h1 := lw_le h (hr' := hr) (b' := b) (l' := l)
    cases fu with
    | zero => omega
    | succ fu =>
      unfold fX5_draughts
      rw [if_pos rfl, m_vn h]
      simp only [bs, f_mv, fs_mv]
      rw [m_dc h, nI_l (show lw n b hr c w l < 2 ^ 31 by omega), lN_mul]
      simp only [bs, f_ca, fs_ca]
      unfold cC vV
      by_cases q : sm w c < 2 * lw n b hr c w l
      · simp only [if_pos q, one0, ↓reduceIte, Nat.mul_one]
        exact ⟨_, d, rfl, rfl, rfl, fun _ _ => rfl, fun _ _ => rfl⟩
      · simp only [if_neg q, ↓reduceIte, Nat.mul_zero]
        exact ⟨_, d, rfl, (Int64.add_zero (q_ca Q)).symm, rfl, fun _ _ => rfl, fun _ _ => rfl⟩
  | succ r ih =>
    intro i fu rows Q l d hr e hf h
    cases fu with
    | zero => omega
    | succ fu =>
      have hch := h.hch
      have hc := h.hc
      have loop : ∀ (s v fu2 : Nat) (Q2 : QT) (d2 : Nat), v + s = 16 → s < fu2 → (∀ m, m < c → q_sc Q2 (10 * i + m) = nI (l m)) → q_sh Q2 i = nI hr → q_ca Q2 = q_ca Q + lN (rows * sm (fun v => pr ch v 4 * cC n c k w f wm b ch r (cl n c k l v f wm b hr 1) (hrs hr 1)) v) → q_mv Q2 = q_mv Q + lN (rows * sm (fun v => pr ch v 4 * vV n c k w f wm b ch r (cl n c k l v f wm b hr 1) (hrs hr 1)) v) → (∀ x, x < 10 * i → q_sc Q2 x = q_sc Q x) → (∀ j, j < i → q_sh Q2 j = q_sh Q j) → ∃ (Q' : QT) (d' : Nat), fX5_draughts_L91 (fX5_draughts fu) (nI i) (nI t) (lN rows) fu2 (nI v) (eM n c k w l d2 f wm hr b ch sd P Q2) = some (eM n c k w l d' f wm hr b ch sd P Q') ∧ q_ca Q' = q_ca Q + lN (rows * cC n c k w f wm b ch (r + 1) l hr) ∧ q_mv Q' = q_mv Q + lN (rows * vV n c k w f wm b ch (r + 1) l hr) ∧ (∀ x, x < 10 * i → q_sc Q' x = q_sc Q x) ∧ ∀ j, j < i → q_sh Q' j = q_sh Q j := by
        intro s
        induction s with
        | zero =>
          intro v fu2 Q2 d2 e2 hf2 a1 a2 a3 a4 a5 a6
          obtain rfl : v = 16 := by omega
          cases fu2 with
          | zero => omega
          | succ fu2 =>
            refine ⟨Q2, d2, ?_, a3, a4, a5, a6⟩
            unfold fX5_draughts_L91
            rw [if_pos (show (16 : Int32) ≤ nI 16 by decide)]
        | succ s ihs =>
          intro v fu2 Q2 d2 e2 hf2 a1 a2 a3 a4 a5 a6
          cases fu2 with
          | zero => omega
          | succ fu2 =>
            have hv' : HI n c k w l v f wm hr b ch := h.par ⟨h.hp.1, by omega, h.hp.2.2⟩
            have ha := hv'.after (t := 1)
            have l104 : ∀ (kr : Int32 → Int32 → Int64 → MT → Option MT) (k91 : Int32 → MT → Option MT) (x j fu3 : Nat), j + x = 4 → x < fu3 → fX5_draughts_L104 kr k91 (nI i) (nI t) (lN rows) fu3 (nI v) (lN (rows * pr ch v j)) (nI j) (eM n c k w l d2 f wm hr b ch sd P Q2) = fX5_draughts_j152 kr k91 (nI i) (nI t) (lN rows) (nI v) (lN (rows * pr ch v 4)) (eM n c k w l d2 f wm hr b ch sd P Q2) := by
              intro kr k91 x
              induction x with
              | zero =>
                intro j fu3 e3 hf3
                obtain rfl : j = 4 := by omega
                cases fu3 with
                | zero => omega
                | succ fu3 =>
                  unfold fX5_draughts_L104
                  rw [if_pos (show (4 : Int32) ≤ nI 4 by decide)]
              | succ x ihx =>
                intro j fu3 e3 hf3
                cases fu3 with
                | zero => omega
                | succ fu3 =>
                  have ihx' := ihx (j + 1) fu3 (by omega) (by omega)
                  rw [pr, ← Nat.mul_assoc] at ihx'
                  unfold fX5_draughts_L104 fX5_draughts_j143
                  rw [if_neg (show ¬ (4 : Int32) ≤ nI j from nI_ge (a := j) (b := 4) (by omega) (by omega)), u_if (sbit (s := v) (by omega) (show j < 10 by omega))]
                  simp only [f_n, f_motes, f_kind, f_own, f_cell, f_doors, f_ways, f_seed, wy_g0, wy_g1, wy_g2, wy_g3, wy_g4, ix0, ix1, ix2, ix3, ix4, g05, g15, g25, g35, g45]
                  rw [nI_l (show ch < 2 ^ 31 by omega), show (12 : Int32) - nI ch = nI (12 - ch) from pk_sub (a := 12) (b := ch) hch, nI_l (show 12 - ch < 2 ^ 31 by omega), lN_mul, lN_mul, nI_1]
                  by_cases q : v / 2 ^ j % 2 = 1
                  · rw [if_pos q] at ihx' ⊢
                    exact ihx'
                  · rw [if_neg q] at ihx' ⊢
                    exact ihx'
            have l175 : ∀ (kr : Int32 → Int32 → Int64 → MT → Option MT) (k91 : Int32 → MT → Option MT) (Q3 : QT) (d3 hr3 : Nat), (∀ m, m < c → q_sc Q3 (10 * i + m) = nI (l m)) → q_sh Q3 i = nI hr → ∀ (x j fu3 : Nat), j + x = c → x < fu3 → fX5_draughts_L175 kr k91 (nI i) (nI t) (lN rows) fu3 (nI v) (nI j) (eM n c k w (fun y => if y < j then l y else cl n c k l v f wm b hr 1 y) d3 f wm hr3 b ch sd P Q3) = k91 (nI (v + 1)) (eM n c k w l d3 f wm hr b ch sd P Q3) := by
              intro kr k91 Q3 d3 hr3 b1 b2 x
              induction x with
              | zero =>
                intro j fu3 e3 hf3
                obtain rfl : j = c := by omega
                cases fu3 with
                | zero => omega
                | succ fu3 =>
                  unfold fX5_draughts_L175 fX5_draughts_j209
                  simp only [f_n, f_motes, f_kind, f_own, f_cell, f_doors, f_ways, f_seed]
                  rw [if_pos (nI_le (Nat.le_refl _) (by omega))]
                  have ej : (fun y => if y < j then l y else cl n j k l v f wm b hr 1 y) = l := funext fun y => by
                    by_cases q : y < j
                    · rw [if_pos q]
                    · rw [if_neg q]
                      exact if_neg q
                  simp only [u_gd (show i < 4 by omega) (show 4 < 2 ^ 31 by decide), u_ix (show i < 2 ^ 31 by omega), f_sh, b2, bs, wy_g0, wy_g1, wy_g2, wy_g3, wy_g4, ix0, ix1, ix2, ix3, ix4, g05, g15, g25, g35, g45, wy_s2, fs_ways, nI_1]
                  rw [ej]
              | succ x ihx =>
                intro j fu3 e3 hf3
                cases fu3 with
                | zero => omega
                | succ fu3 =>
                  unfold fX5_draughts_L175
                  simp only [f_n, f_motes, f_kind, f_own, f_cell, f_doors, f_ways, f_seed]
                  rw [if_neg (nI_ge (show j < c by omega) (by omega)), show (10 : Int32) * nI i = nI (10 * i) from pk_mul 10 i, nI_add, nI_1]
                  simp only [u_gd (show 10 * i + j < 40 by omega) (show 40 < 2 ^ 31 by decide), u_ix (show 10 * i + j < 2 ^ 31 by omega), u_gd (show j < 10 by omega) (show 10 < 2 ^ 31 by decide), u_ix (show j < 2 ^ 31 by omega), f_sc, bs]
                  rw [b1 j (by omega), u_upd (l' := fun y => if y < j + 1 then l y else cl n c k l v f wm b hr 1 y) (fun y hy => by
                    by_cases q : y < j
                    · rw [if_pos q, if_pos (by omega)]
                    · rw [if_neg q, if_neg (by omega)]) (if_pos (Nat.lt_succ_self j)), fs_cell]
                  exact ihx (j + 1) fu3 (by omega) (by omega)
            unfold fX5_draughts_L91
            rw [if_neg (show ¬ (16 : Int32) ≤ nI v from nI_ge (a := v) (b := 16) (by omega) (by omega))]
            have e104 := l104 (fX5_draughts fu) (fun v5 S0 => fX5_draughts_L91 (fX5_draughts fu) (nI i) (nI t) (lN rows) fu2 v5 S0) 4 0 FU (by omega) (by show 4 < 1100; omega)
            rw [show pr ch v 0 = 1 from rfl, Nat.mul_one] at e104
            rw [show fX5_draughts_L104 _ _ (nI i) (nI t) (lN rows) FU (nI v) (lN rows) (0 : Int32) _ = _ from e104]
            unfold fX5_draughts_j152
            simp only [bs, fs_doors]
            rw [m_step0 hv']
            simp only [bs]
            rw [nI_1]
            obtain ⟨Q3, d3, c1, c2, c3, c4, c5⟩ := ih (i + 1) fu (rows * pr ch v 4) Q2 _ _ _ (by omega) (by omega) ha
            rw [c1]
            simp only [bs]
            have e175 := l175 (fX5_draughts fu) (fun v5 S0 => fX5_draughts_L91 (fX5_draughts fu) (nI i) (nI t) (lN rows) fu2 v5 S0) Q3 d3 (hrs hr 1) (fun m hm => by rw [c4 _ (by omega)]; exact a1 m hm) (by rw [c5 i (by omega)]; exact a2) c 0 FU (by omega) (by show c < 1100; omega)
            rw [show (fun y => if y < 0 then l y else cl n c k l v f wm b hr 1 y) = cl n c k l v f wm b hr 1 from funext fun y => if_neg (Nat.not_lt_zero y)] at e175
            rw [show fX5_draughts_L175 _ _ (nI i) (nI t) (lN rows) FU (nI v) (0 : Int32) _ = _ from e175]
            refine ihs (v + 1) fu2 Q3 d3 (by omega) (by omega) (fun m hm => by rw [c4 _ (by omega)]; exact a1 m hm) (by rw [c5 i (by omega)]; exact a2) ?_ ?_ (fun x hx => by rw [c4 x (by omega)]; exact a5 x hx) (fun j hj => by rw [c5 j (by omega)]; exact a6 j hj)
            · rw [c2, a3, i64_assoc, sm, Nat.mul_add, Nat.mul_assoc]
            · rw [c3, a4, i64_assoc, sm, Nat.mul_add, Nat.mul_assoc]
      have l54 : ∀ (x j fu3 : Nat) (Q2 : QT), j + x = c → x < fu3 → (∀ m, m < j → q_sc Q2 (10 * i + m) = nI (l m)) → q_sh Q2 i = nI hr → q_ca Q2 = q_ca Q → q_mv Q2 = q_mv Q → (∀ x, x < 10 * i → q_sc Q2 x = q_sc Q x) → (∀ j, j < i → q_sh Q2 j = q_sh Q j) → ∃ (Q' : QT) (d' : Nat), fX5_draughts_L54 (fX5_draughts fu) (nI i) (nI t) (lN rows) fu3 (nI j) (eM n c k w l d f wm hr b ch sd P Q2) = some (eM n c k w l d' f wm hr b ch sd P Q') ∧ q_ca Q' = q_ca Q + lN (rows * cC n c k w f wm b ch (r + 1) l hr) ∧ q_mv Q' = q_mv Q + lN (rows * vV n c k w f wm b ch (r + 1) l hr) ∧ (∀ x, x < 10 * i → q_sc Q' x = q_sc Q x) ∧ ∀ j, j < i → q_sh Q' j = q_sh Q j := by
        intro x
        induction x with
        | zero =>
          intro j fu3 Q2 e3 hf3 a1 a2 a3 a4 a5 a6
          obtain rfl : j = c := by omega
          cases fu3 with
          | zero => omega
          | succ fu3 =>
            unfold fX5_draughts_L54
            simp only [f_n, f_motes, f_kind, f_own, f_cell, f_doors, f_ways, f_seed]
            rw [if_pos (nI_le (Nat.le_refl _) (by omega))]
            exact loop 16 0 FU Q2 d (by omega) (by show 16 < 1100; omega) a1 a2 (by rw [a3]; exact (Int64.add_zero (q_ca Q)).symm) (by rw [a4]; exact (Int64.add_zero (q_mv Q)).symm) a5 a6
        | succ x ihx =>
          intro j fu3 Q2 e3 hf3 a1 a2 a3 a4 a5 a6
          cases fu3 with
          | zero => omega
          | succ fu3 =>
            unfold fX5_draughts_L54
            simp only [f_n, f_motes, f_kind, f_own, f_cell, f_doors, f_ways, f_seed]
            rw [if_neg (nI_ge (show j < c by omega) (by omega)), show (10 : Int32) * nI i = nI (10 * i) from pk_mul 10 i, nI_add, nI_1]
            simp only [u_gd (show 10 * i + j < 40 by omega) (show 40 < 2 ^ 31 by decide), u_ix (show 10 * i + j < 2 ^ 31 by omega), u_gd (show j < 10 by omega) (show 10 < 2 ^ 31 by decide), u_ix (show j < 2 ^ 31 by omega), f_sc, fs_sc, bs]
            refine ihx (j + 1) fu3 _ (by omega) (by omega) (fun m hm => ?_) a2 a3 a4 (fun y hy => ?_) a6
            · show upd (q_sc Q2) (10 * i + j) (nI (l j)) (10 * i + m) = nI (l m)
              by_cases q : m = j
              · subst q
                rw [pk_us]
              · rw [pk_un (by omega)]
                exact a1 m (by omega)
            · show upd (q_sc Q2) (10 * i + j) (nI (l j)) y = q_sc Q y
              rw [pk_un (by omega)]
              exact a5 y hy
      unfold fX5_draughts
      rw [if_neg (show ¬ nI i = nI t from fun z => by
        have := (nI_eq (by omega) (by omega)).mp z
        omega)]
      simp only [f_n, f_motes, f_kind, f_own, f_cell, f_doors, f_ways, f_seed, wy_g0, wy_g1, wy_g2, wy_g3, wy_g4, ix0, ix1, ix2, ix3, ix4, g05, g15, g25, g35, g45, bs, u_gd (show i < 4 by omega) (show 4 < 2 ^ 31 by decide), u_ix (show i < 2 ^ 31 by omega), f_sh, fs_sh]
      refine l54 c 0 FU _ (by omega) (by show c < 1100; omega) (fun m hm => by omega) ?_ rfl rfl (fun _ _ => rfl) (fun j hj => ?_)
      · show upd (q_sh Q) i (nI hr) i = nI hr
        rw [pk_us]
      · show upd (q_sh Q) i (nI hr) j = q_sh Q j
        rw [pk_un (by omega)]
theorem aA_12 : ∀ t, t ≤ 3 → aA t = 12 ^ (4 * t) := by decide
theorem rel_dr {g : DrT} (hR : Rel S M) (hg : ∀ i, i < 4 → Zh (d_deep g i)) : Rel (xs_dr S g) M := by
  obtain ⟨n, c, k, w, l, d, f, wm, hr, b, ch, sd, P, Q, hx, rfl, h, hZ, hX⟩ := hR
  exact ⟨n, c, k, w, l, d, f, wm, hr, b, ch, sd, P, Q, hx, rfl, h, ⟨hZ.1, hZ.2.1, hg⟩, hX⟩
theorem c_odds (hR : Rel S M) : Out (fX4_odds p1 p2 S) (fX5_odds p1 p2 M) := by
  obtain ⟨n, c, k, w, l, d, f, wm, hr, b, ch, sd, P, Q, hx, rfl, h, hX⟩ := hR
  have hR := rel_s (Q := Q) hx h hX
  have hd := h.hp.2.1
  unfold fX4_odds fX5_odds fX4_odds_j18 fX5_odds_j18
  rcases wi_cases (N := 3) (3 : Int32) p1 rfl (by decide) with ⟨e, h1 | ⟨h1, h2, h3⟩⟩ | ⟨t, ht, rfl, h1, h2, h3, e⟩
  · rw [e, if_pos h1]
    simp only [bs, ↓reduceIte]
    exact out2 hR
  · rw [e, if_neg h1, if_pos h2]
    simp only [bs, ↓reduceIte]
    exact out2 hR
  rw [e, if_neg h1, if_neg h2]
  simp only [bs, one0, ↓reduceIte]
  rcases wi_cases (N := 1) (1 : Int32) p2 rfl (by decide) with ⟨e, h1 | ⟨h1, h2, h3⟩⟩ | ⟨v, hv, rfl, h1, h2, h3, e⟩
  · rw [e, if_pos h1]
    simp only [bs, ↓reduceIte]
    exact out2 hR
  · rw [e, if_neg h1, if_neg h3]
    simp only [bs, ↓reduceIte]
    exact out2 hR
  rw [e, if_neg h1, if_pos h3, hx]
  simp only [bs, one0, ↓reduceIte, fs_ca, fs_mv, f_doors]
  obtain ⟨g, x1, x2⟩ := x_rk (D := x_dr S) ht h hX.1.2.2
  obtain ⟨Q', d', m1, m2, m3, -, -⟩ := m_dr (n := n) (c := c) (k := k) (w := w) (f := f) (wm := wm) (b := b) (ch := ch) (sd := sd) (P := P) ht t 0 5 1 (qs_mv (qs_ca Q 0) 0) l d hr (by omega) (by omega) h
  rw [x1, show fX5_draughts 5 (0 : Int32) (nI t) (1 : Int64) _ = _ from m1]
  simp only [bs, fs_doors]
  rw [Nat.one_mul] at m2 m3
  have z0 : ∀ x : Nat, (0 : Int64) + lN x = lN x := fun x => Int64.zero_add (lN x)
  have m2' : q_ca Q' = lN (cC n c k w f wm b ch t l hr) := m2.trans (z0 _)
  have m3' : q_mv Q' = lN (vV n c k w f wm b ch t l hr) := m3.trans (z0 _)
  have hloop : ∀ (r i fu : Nat), i + r = 4 * t → r < fu → fX5_odds_L58 (nI t) (nI v) fu (lN (12 ^ i)) (nI i) (eM n c k w l d f wm hr b ch sd P Q') = fX5_odds_j80 (nI t) (nI v) (lN (aA t)) (eM n c k w l d f wm hr b ch sd P Q') := by
    intro r
    induction r with
    | zero =>
      intro i fu e1 hf
      obtain rfl : i = 4 * t := by omega
      cases fu with
      | zero => omega
      | succ fu =>
        unfold fX5_odds_L58
        rw [show (4 : Int32) * nI t = nI (4 * t) from pk_mul 4 t, if_pos (nI_le (Nat.le_refl _) (by omega)), aA_12 t ht]
    | succ r ih =>
      intro i fu e1 hf
      cases fu with
      | zero => omega
      | succ fu =>
        unfold fX5_odds_L58
        rw [show (4 : Int32) * nI t = nI (4 * t) from pk_mul 4 t, if_neg (nI_ge (show i < 4 * t by omega) (by omega)), nI_1, show lN (12 ^ i) * (12 : Int64) = lN (12 ^ (i + 1)) from lN_mul (12 ^ i) 12]
        exact ih (i + 1) fu (by omega) (by omega)
  rw [show fX5_odds_L58 (nI t) (nI v) FU (1 : Int64) (0 : Int32) (eM n c k w l d f wm hr b ch sd P Q') = _ from hloop (4 * t) 0 FU (by omega) (by show 4 * t < 1100; omega)]
  have hA : 0 < aA t ∧ aA t < 2 ^ 63 := by
    have : t = 0 ∨ t = 1 ∨ t = 2 ∨ t = 3 := by omega
    rcases this with rfl | rfl | rfl | rfl <;> decide
  have ha1 : ¬ lN (aA t) ≤ 0 := fun z => by
    have := (pk_lLE (a := aA t) (b := 0) hA.2 (by omega)).mp z
    omega
  have ha0 : ¬ lN (aA t) = 0 := fun z => by
    have := (pk_lEQ (a := aA t) (b := 0) hA.2 (by omega)).mp z
    omega
  unfold fX0_carriedOfMillion fX0_thousandfoldMean fX5_odds_j80
  simp only [lg_cmp_le, dgw, f_ca, f_mv]
  rw [m2', m3', show dw_all (ad ((0, 0, 0) : DwT) (aA t) (cC n c k w f wm b ch t l hr) (vV n c k w f wm b ch t l hr)) = lN (aA t) from z0 _, show dw_carried (ad ((0, 0, 0) : DwT) (aA t) (cC n c k w f wm b ch t l hr) (vV n c k w f wm b ch t l hr)) = lN (cC n c k w f wm b ch t l hr) from z0 _, show dw_voted (ad ((0, 0, 0) : DwT) (aA t) (cC n c k w f wm b ch t l hr) (vV n c k w f wm b ch t l hr)) = lN (vV n c k w f wm b ch t l hr) from z0 _]
  simp only [if_neg ha1, if_neg ha0, bs]
  have hR2 := rel_dr (g := (g, ad ((0, 0, 0) : DwT) (aA t) (cC n c k w f wm b ch t l hr) (vV n c k w f wm b ch t l hr))) (rel_s (Q := Q') hx h hX) x2
  by_cases q : nI v = 0
  · rw [if_pos q, if_pos q]
    exact ⟨_, _, _, rfl, rfl, hR2⟩
  · rw [if_neg q, if_neg q]
    exact ⟨_, _, _, rfl, rfl, hR2⟩
end D2
