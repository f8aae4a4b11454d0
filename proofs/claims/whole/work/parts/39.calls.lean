/-! ===== pure layer: images, status ===== -/
def q_ahead (Q : QT) : Nat → Int32 := Q.2.2.2.2.1
def qs_ahead (Q : QT) (v : Nat → Int32) : QT := (Q.1, Q.2.1, Q.2.2.1, Q.2.2.2.1, v, Q.2.2.2.2.2)
section C5
variable {n c : Nat} {k w l : Nat → Nat} {d f wm hr b ch : Nat} {sd : Int32} {P : PT} {Q : QT} {S : XT} {M : MT} {p1 p2 p3 p4 p5 : Int32}
theorem f_ahead : m_ahead (eM n c k w l d f wm hr b ch sd P Q) = q_ahead Q := id rfl
theorem fs_ahead {v : Nat → Int32} : ms_ahead (eM n c k w l d f wm hr b ch sd P Q) v = eM n c k w l d f wm hr b ch sd P (qs_ahead Q v) := id rfl
theorem wy_at {j : Nat} (hj : j < 5) : wy f wm hr b ch j = (if j = 0 then nI f else if j = 1 then nI wm else if j = 2 then nI hr else if j = 3 then nI b else nI ch) := by
  have : j = 0 ∨ j = 1 ∨ j = 2 ∨ j = 3 ∨ j = 4 := by omega
  rcases this with rfl | rfl | rfl | rfl | rfl <;> rfl
theorem m_keep_old : ∃ o, fX5_keep_old (eM n c k w l d f wm hr b ch sd P Q) = some (eM n c k w l d f wm hr b ch sd (ps_old P o) Q) ∧ OldR o n c k w l d f wm hr b ch sd := by
  have last : ∀ (P : PT), (∀ i, i < 10 → p_old P i = nI (k i) ∧ p_old P (10 + i) = nI (w i) ∧ p_old P (20 + i) = nI (l i)) → (p_old P 30 = nI f ∧ p_old P 31 = nI wm ∧ p_old P 32 = nI hr ∧ p_old P 33 = nI b ∧ p_old P 34 = nI ch) → ∃ o, fX5_keep_old_j72 (eM n c k w l d f wm hr b ch sd P Q) = some (eM n c k w l d f wm hr b ch sd (ps_old P o) Q) ∧ OldR o n c k w l d f wm hr b ch sd := by
    intro P h1 h2
    unfold fX5_keep_old_j72
    have g35 : ∀ {α : Type} {o : Option α}, gd (inb (35 : Int32) 39) o = o := fun {α} {o} => u_gd (a := 35) (by omega) (by omega)
    have g36 : ∀ {α : Type} {o : Option α}, gd (inb (36 : Int32) 39) o = o := fun {α} {o} => u_gd (a := 36) (by omega) (by omega)
    have g37 : ∀ {α : Type} {o : Option α}, gd (inb (37 : Int32) 39) o = o := fun {α} {o} => u_gd (a := 37) (by omega) (by omega)
    have g38 : ∀ {α : Type} {o : Option α}, gd (inb (38 : Int32) 39) o = o := fun {α} {o} => u_gd (a := 38) (by omega) (by omega)
    have i35 : ix (35 : Int32) = 35 := by decide
    have i36 : ix (36 : Int32) = 36 := by decide
    have i37 : ix (37 : Int32) = 37 := by decide
    have i38 : ix (38 : Int32) = 38 := by decide
    simp only [bs, g35, g36, g37, g38, i35, i36, i37, i38, f_old, fs_old, f_n, f_motes, f_kind, f_own, f_cell, f_doors, f_ways, f_seed]
    refine ⟨upd (upd (upd (upd (p_old P) 35 (nI n)) 36 (nI c)) 37 (nI d)) 38 sd, rfl, ?_⟩
    refine ⟨fun i hi => ?_, ?_, ?_, ?_, ?_, ?_⟩
    · refine ⟨?_, ?_, ?_⟩
      · rw [pk_un (by omega), pk_un (by omega), pk_un (by omega), pk_un (by omega), (h1 i hi).1]
      · rw [pk_un (by omega), pk_un (by omega), pk_un (by omega), pk_un (by omega), (h1 i hi).2.1]
      · rw [pk_un (by omega), pk_un (by omega), pk_un (by omega), pk_un (by omega), (h1 i hi).2.2]
    · exact h2
    · rw [pk_un (by omega), pk_un (by omega), pk_un (by omega), pk_us]
    · rw [pk_un (by omega), pk_un (by omega), pk_us]
    · rw [pk_un (by omega), pk_us]
    · rw [pk_us]
  have mids : ∀ (r j fu : Nat) (P : PT), j + r = 5 → r < fu → (∀ i, i < 10 → p_old P i = nI (k i) ∧ p_old P (10 + i) = nI (w i) ∧ p_old P (20 + i) = nI (l i)) → (∀ i, i < j → p_old P (30 + i) = wy f wm hr b ch i) → ∃ o, fX5_keep_old_L49 fu (nI j) (eM n c k w l d f wm hr b ch sd P Q) = some (eM n c k w l d f wm hr b ch sd (ps_old P o) Q) ∧ OldR o n c k w l d f wm hr b ch sd := by
    intro r
    induction r with
    | zero =>
      intro j fu P e hf h1 h2
      obtain rfl : j = 5 := by omega
      cases fu with
      | zero => omega
      | succ fu =>
        unfold fX5_keep_old_L49
        rw [if_pos (show (5 : Int32) ≤ nI 5 by decide)]
        exact last P h1 ⟨h2 0 (by omega), h2 1 (by omega), h2 2 (by omega), h2 3 (by omega), h2 4 (by omega)⟩
    | succ r ih =>
      intro j fu P e hf h1 h2
      cases fu with
      | zero => omega
      | succ fu =>
        unfold fX5_keep_old_L49
        rw [if_neg (show ¬ (5 : Int32) ≤ nI j from nI_ge (a := j) (b := 5) (by omega) (by omega)), show (30 : Int32) + nI j = nI (30 + j) from nI_add 30 j]
        simp only [bs, u_gd (show j < 5 by omega) (show 5 < 2 ^ 31 by decide), u_gd (show 30 + j < 39 by omega) (show 39 < 2 ^ 31 by decide), u_ix (show j < 2 ^ 31 by omega), u_ix (show 30 + j < 2 ^ 31 by omega), f_old, fs_old, f_n, f_motes, f_kind, f_own, f_cell, f_doors, f_ways, f_seed, nI_1]
        exact ih (j + 1) fu _ (by omega) (by omega) (fun i hi => by
          refine ⟨?_, ?_, ?_⟩
          · exact (pk_un (by omega)).trans (h1 i hi).1
          · exact (pk_un (by omega)).trans (h1 i hi).2.1
          · exact (pk_un (by omega)).trans (h1 i hi).2.2) (fun i hi => by
          by_cases e : i = j
          · subst e
            exact pk_us
          · exact (pk_un (by omega)).trans (h2 i (by omega)))
  have firsts : ∀ (r j fu : Nat) (P : PT), j + r = 10 → r < fu → (∀ i, i < j → p_old P i = nI (k i) ∧ p_old P (10 + i) = nI (w i) ∧ p_old P (20 + i) = nI (l i)) → ∃ o, fX5_keep_old_L2 fu (nI j) (eM n c k w l d f wm hr b ch sd P Q) = some (eM n c k w l d f wm hr b ch sd (ps_old P o) Q) ∧ OldR o n c k w l d f wm hr b ch sd := by
    intro r
    induction r with
    | zero =>
      intro j fu P e hf h1
      obtain rfl : j = 10 := by omega
      cases fu with
      | zero => omega
      | succ fu =>
        unfold fX5_keep_old_L2
        rw [if_pos (show (10 : Int32) ≤ nI 10 by decide)]
        exact mids 5 0 FU P (by omega) (by show 5 < 1100; omega) h1 (fun i hi => by omega)
    | succ r ih =>
      intro j fu P e hf h1
      cases fu with
      | zero => omega
      | succ fu =>
        unfold fX5_keep_old_L2
        rw [if_neg (show ¬ (10 : Int32) ≤ nI j from nI_ge (a := j) (b := 10) (by omega) (by omega)), show (10 : Int32) + nI j = nI (10 + j) from nI_add 10 j, show (20 : Int32) + nI j = nI (20 + j) from nI_add 20 j]
        simp only [bs, u_gd (show j < 10 by omega) (show 10 < 2 ^ 31 by decide), u_gd (show j < 39 by omega) (show 39 < 2 ^ 31 by decide), u_gd (show 10 + j < 39 by omega) (show 39 < 2 ^ 31 by decide), u_gd (show 20 + j < 39 by omega) (show 39 < 2 ^ 31 by decide), u_ix (show j < 2 ^ 31 by omega), u_ix (show 10 + j < 2 ^ 31 by omega), u_ix (show 20 + j < 2 ^ 31 by omega), f_old, fs_old, f_n, f_motes, f_kind, f_own, f_cell, f_doors, f_ways, f_seed, nI_1]
        exact ih (j + 1) fu _ (by omega) (by omega) (fun i hi => by
          by_cases e : i = j
          · subst e
            refine ⟨?_, ?_, ?_⟩
            · exact (pk_un (by omega)).trans ((pk_un (by omega)).trans pk_us)
            · exact (pk_un (by omega)).trans pk_us
            · exact pk_us
          · have := h1 i (by omega)
            refine ⟨?_, ?_, ?_⟩
            · exact (pk_un (by omega)).trans ((pk_un (by omega)).trans ((pk_un (by omega)).trans this.1))
            · exact (pk_un (by omega)).trans ((pk_un (by omega)).trans ((pk_un (by omega)).trans this.2.1))
            · exact (pk_un (by omega)).trans ((pk_un (by omega)).trans ((pk_un (by omega)).trans this.2.2)))
  exact firsts 10 0 FU P (by omega) (by show 10 < 1100; omega) (fun i hi => by omega)
theorem m_again_old {n' c' : Nat} {k' w' l' : Nat → Nat} {d' f' wm' hr' b' ch' : Nat} {sd' : Int32} (hO : OldR (p_old P) n' c' k' w' l' d' f' wm' hr' b' ch' sd') (hz : ∀ i, 10 ≤ i → k i = k' i ∧ w i = w' i ∧ l i = l' i) : fX5_again_old (eM n c k w l d f wm hr b ch sd P Q) = some (eM n' c' k' w' l' d' f' wm' hr' b' ch' sd' P Q) := by
  obtain ⟨h1, ⟨o0, o1, o2, o3, o4⟩, o5, o6, o7, o8⟩ := hO
  have last : ∀ (f wm hr b ch : Nat), f = f' → wm = wm' → hr = hr' → b = b' → ch = ch' → fX5_again_old_j72 (eM n c k' w' l' d f wm hr b ch sd P Q) = some (eM n' c' k' w' l' d' f' wm' hr' b' ch' sd' P Q) := by
    intro f wm hr b ch e1 e2 e3 e4 e5
    subst e1 e2 e3 e4 e5
    unfold fX5_again_old_j72
    have g35 : ∀ {α : Type} {o : Option α}, gd (inb (35 : Int32) 39) o = o := fun {α} {o} => u_gd (a := 35) (by omega) (by omega)
    have g36 : ∀ {α : Type} {o : Option α}, gd (inb (36 : Int32) 39) o = o := fun {α} {o} => u_gd (a := 36) (by omega) (by omega)
    have g37 : ∀ {α : Type} {o : Option α}, gd (inb (37 : Int32) 39) o = o := fun {α} {o} => u_gd (a := 37) (by omega) (by omega)
    have g38 : ∀ {α : Type} {o : Option α}, gd (inb (38 : Int32) 39) o = o := fun {α} {o} => u_gd (a := 38) (by omega) (by omega)
    have i35 : ix (35 : Int32) = 35 := by decide
    have i36 : ix (36 : Int32) = 36 := by decide
    have i37 : ix (37 : Int32) = 37 := by decide
    have i38 : ix (38 : Int32) = 38 := by decide
    simp only [bs, g35, g36, g37, g38, i35, i36, i37, i38, f_old, o5, o6, o7, o8, fs_n, fs_motes, fs_doors, fs_seed]
  have mids : ∀ (r j fu : Nat) (f wm hr b ch : Nat), j + r = 5 → r < fu → (0 < j → f = f') → (1 < j → wm = wm') → (2 < j → hr = hr') → (3 < j → b = b') → (4 < j → ch = ch') → fX5_again_old_L49 fu (nI j) (eM n c k' w' l' d f wm hr b ch sd P Q) = some (eM n' c' k' w' l' d' f' wm' hr' b' ch' sd' P Q) := by
    intro r
    induction r with
    | zero =>
      intro j fu f wm hr b ch e hf e1 e2 e3 e4 e5
      obtain rfl : j = 5 := by omega
      cases fu with
      | zero => omega
      | succ fu =>
        unfold fX5_again_old_L49
        rw [if_pos (show (5 : Int32) ≤ nI 5 by decide)]
        exact last f wm hr b ch (e1 (by omega)) (e2 (by omega)) (e3 (by omega)) (e4 (by omega)) (e5 (by omega))
    | succ r ih =>
      intro j fu f wm hr b ch e hf e1 e2 e3 e4 e5
      cases fu with
      | zero => omega
      | succ fu =>
        unfold fX5_again_old_L49
        rw [if_neg (show ¬ (5 : Int32) ≤ nI j from nI_ge (a := j) (b := 5) (by omega) (by omega)), show (30 : Int32) + nI j = nI (30 + j) from nI_add 30 j]
        simp only [bs, u_gd (show j < 5 by omega) (show 5 < 2 ^ 31 by decide), u_gd (show 30 + j < 39 by omega) (show 39 < 2 ^ 31 by decide), u_ix (show j < 2 ^ 31 by omega), u_ix (show 30 + j < 2 ^ 31 by omega), f_old, f_ways, nI_1]
        have : j = 0 ∨ j = 1 ∨ j = 2 ∨ j = 3 ∨ j = 4 := by omega
        rcases this with rfl | rfl | rfl | rfl | rfl
        · rw [o0, wy_s0, fs_ways]
          exact ih 1 fu _ _ _ _ _ (by omega) (by omega) (fun _ => rfl) (by omega) (by omega) (by omega) (by omega)
        · rw [o1, wy_s1, fs_ways]
          exact ih 2 fu _ _ _ _ _ (by omega) (by omega) (fun _ => e1 (by omega)) (fun _ => rfl) (by omega) (by omega) (by omega)
        · rw [o2, wy_s2, fs_ways]
          exact ih 3 fu _ _ _ _ _ (by omega) (by omega) (fun _ => e1 (by omega)) (fun _ => e2 (by omega)) (fun _ => rfl) (by omega) (by omega)
        · rw [o3, wy_s3, fs_ways]
          exact ih 4 fu _ _ _ _ _ (by omega) (by omega) (fun _ => e1 (by omega)) (fun _ => e2 (by omega)) (fun _ => e3 (by omega)) (fun _ => rfl) (by omega)
        · rw [o4, wy_s4, fs_ways]
          exact ih 5 fu _ _ _ _ _ (by omega) (by omega) (fun _ => e1 (by omega)) (fun _ => e2 (by omega)) (fun _ => e3 (by omega)) (fun _ => e4 (by omega)) (fun _ => rfl)
  have firsts : ∀ (r j fu : Nat), j + r = 10 → r < fu → fX5_again_old_L2 fu (nI j) (eM n c (fun i => if i < j then k' i else k i) (fun i => if i < j then w' i else w i) (fun i => if i < j then l' i else l i) d f wm hr b ch sd P Q) = some (eM n' c' k' w' l' d' f' wm' hr' b' ch' sd' P Q) := by
    intro r
    induction r with
    | zero =>
      intro j fu e hf
      obtain rfl : j = 10 := by omega
      cases fu with
      | zero => omega
      | succ fu =>
        unfold fX5_again_old_L2
        rw [if_pos (show (10 : Int32) ≤ nI 10 by decide)]
        have a1 : (fun i => if i < 10 then k' i else k i) = k' := funext fun i => by
          by_cases q : i < 10
          · rw [if_pos q]
          · rw [if_neg q, (hz i (by omega)).1]
        have a2 : (fun i => if i < 10 then w' i else w i) = w' := funext fun i => by
          by_cases q : i < 10
          · rw [if_pos q]
          · rw [if_neg q, (hz i (by omega)).2.1]
        have a3 : (fun i => if i < 10 then l' i else l i) = l' := funext fun i => by
          by_cases q : i < 10
          · rw [if_pos q]
          · rw [if_neg q, (hz i (by omega)).2.2]
        rw [a1, a2, a3]
        exact mids 5 0 FU f wm hr b ch (by omega) (by show 5 < 1100; omega) (by omega) (by omega) (by omega) (by omega) (by omega)
    | succ r ih =>
      intro j fu e hf
      cases fu with
      | zero => omega
      | succ fu =>
        unfold fX5_again_old_L2
        rw [if_neg (show ¬ (10 : Int32) ≤ nI j from nI_ge (a := j) (b := 10) (by omega) (by omega)), show (10 : Int32) + nI j = nI (10 + j) from nI_add 10 j, show (20 : Int32) + nI j = nI (20 + j) from nI_add 20 j]
        have up1 : ∀ (a a' : Nat → Nat), upd (fun i => nI (if i < j then a' i else a i)) j (nI (a' j)) = fun i => nI (if i < j + 1 then a' i else a i) := fun a a' => u_upd (l := fun i => if i < j then a' i else a i) (l' := fun i => if i < j + 1 then a' i else a i) (fun i hi => by
          by_cases q : i < j
          · rw [if_pos q, if_pos (by omega)]
          · rw [if_neg q, if_neg (by omega)]) (if_pos (Nat.lt_succ_self j))
        have j1 := h1 j (by omega)
        simp only [bs, u_gd (show j < 10 by omega) (show 10 < 2 ^ 31 by decide), u_gd (show j < 39 by omega) (show 39 < 2 ^ 31 by decide), u_gd (show 10 + j < 39 by omega) (show 39 < 2 ^ 31 by decide), u_gd (show 20 + j < 39 by omega) (show 39 < 2 ^ 31 by decide), u_ix (show j < 2 ^ 31 by omega), u_ix (show 10 + j < 2 ^ 31 by omega), u_ix (show 20 + j < 2 ^ 31 by omega), f_old, f_n, f_motes, f_kind, f_own, f_cell, f_doors, f_ways, f_seed, nI_1, j1.1, j1.2.1, j1.2.2]
        simp only [up1, fs_kind, f_old, j1.1, j1.2.1, j1.2.2, f_n, f_motes, f_kind, f_own, f_cell, f_doors, f_ways, f_seed, fs_own, fs_cell]
        exact ih (j + 1) fu (by omega) (by omega)
  have := firsts 10 0 FU (by omega) (by show 10 < 1100; omega)
  exact this
theorem m_keep_ahead : ∃ o, fX5_keep_ahead (eM n c k w l d f wm hr b ch sd P Q) = some (eM n c k w l d f wm hr b ch sd P (qs_ahead Q o)) ∧ OldR o n c k w l d f wm hr b ch sd := by
  have last : ∀ (Q : QT), (∀ i, i < 10 → q_ahead Q i = nI (k i) ∧ q_ahead Q (10 + i) = nI (w i) ∧ q_ahead Q (20 + i) = nI (l i)) → (q_ahead Q 30 = nI f ∧ q_ahead Q 31 = nI wm ∧ q_ahead Q 32 = nI hr ∧ q_ahead Q 33 = nI b ∧ q_ahead Q 34 = nI ch) → ∃ o, fX5_keep_ahead_j72 (eM n c k w l d f wm hr b ch sd P Q) = some (eM n c k w l d f wm hr b ch sd P (qs_ahead Q o)) ∧ OldR o n c k w l d f wm hr b ch sd := by
    intro Q h1 h2
    unfold fX5_keep_ahead_j72
    have g35 : ∀ {α : Type} {o : Option α}, gd (inb (35 : Int32) 39) o = o := fun {α} {o} => u_gd (a := 35) (by omega) (by omega)
    have g36 : ∀ {α : Type} {o : Option α}, gd (inb (36 : Int32) 39) o = o := fun {α} {o} => u_gd (a := 36) (by omega) (by omega)
    have g37 : ∀ {α : Type} {o : Option α}, gd (inb (37 : Int32) 39) o = o := fun {α} {o} => u_gd (a := 37) (by omega) (by omega)
    have g38 : ∀ {α : Type} {o : Option α}, gd (inb (38 : Int32) 39) o = o := fun {α} {o} => u_gd (a := 38) (by omega) (by omega)
    have i35 : ix (35 : Int32) = 35 := by decide
    have i36 : ix (36 : Int32) = 36 := by decide
    have i37 : ix (37 : Int32) = 37 := by decide
    have i38 : ix (38 : Int32) = 38 := by decide
    simp only [bs, g35, g36, g37, g38, i35, i36, i37, i38, f_ahead, fs_ahead, f_n, f_motes, f_kind, f_own, f_cell, f_doors, f_ways, f_seed]
    refine ⟨upd (upd (upd (upd (q_ahead Q) 35 (nI n)) 36 (nI c)) 37 (nI d)) 38 sd, rfl, ?_⟩
    refine ⟨fun i hi => ?_, ?_, ?_, ?_, ?_, ?_⟩
    · refine ⟨?_, ?_, ?_⟩
      · rw [pk_un (by omega), pk_un (by omega), pk_un (by omega), pk_un (by omega), (h1 i hi).1]
      · rw [pk_un (by omega), pk_un (by omega), pk_un (by omega), pk_un (by omega), (h1 i hi).2.1]
      · rw [pk_un (by omega), pk_un (by omega), pk_un (by omega), pk_un (by omega), (h1 i hi).2.2]
    · exact h2
    · rw [pk_un (by omega), pk_un (by omega), pk_un (by omega), pk_us]
    · rw [pk_un (by omega), pk_un (by omega), pk_us]
    · rw [pk_un (by omega), pk_us]
    · rw [pk_us]
  have mids : ∀ (r j fu : Nat) (Q : QT), j + r = 5 → r < fu → (∀ i, i < 10 → q_ahead Q i = nI (k i) ∧ q_ahead Q (10 + i) = nI (w i) ∧ q_ahead Q (20 + i) = nI (l i)) → (∀ i, i < j → q_ahead Q (30 + i) = wy f wm hr b ch i) → ∃ o, fX5_keep_ahead_L49 fu (nI j) (eM n c k w l d f wm hr b ch sd P Q) = some (eM n c k w l d f wm hr b ch sd P (qs_ahead Q o)) ∧ OldR o n c k w l d f wm hr b ch sd := by
    intro r
    induction r with
    | zero =>
      intro j fu Q e hf h1 h2
      obtain rfl : j = 5 := by omega
      cases fu with
      | zero => omega
      | succ fu =>
        unfold fX5_keep_ahead_L49
        rw [if_pos (show (5 : Int32) ≤ nI 5 by decide)]
        exact last Q h1 ⟨h2 0 (by omega), h2 1 (by omega), h2 2 (by omega), h2 3 (by omega), h2 4 (by omega)⟩
    | succ r ih =>
      intro j fu Q e hf h1 h2
      cases fu with
      | zero => omega
      | succ fu =>
        unfold fX5_keep_ahead_L49
        rw [if_neg (show ¬ (5 : Int32) ≤ nI j from nI_ge (a := j) (b := 5) (by omega) (by omega)), show (30 : Int32) + nI j = nI (30 + j) from nI_add 30 j]
        simp only [bs, u_gd (show j < 5 by omega) (show 5 < 2 ^ 31 by decide), u_gd (show 30 + j < 39 by omega) (show 39 < 2 ^ 31 by decide), u_ix (show j < 2 ^ 31 by omega), u_ix (show 30 + j < 2 ^ 31 by omega), f_ahead, fs_ahead, f_n, f_motes, f_kind, f_own, f_cell, f_doors, f_ways, f_seed, nI_1]
        exact ih (j + 1) fu _ (by omega) (by omega) (fun i hi => by
          refine ⟨?_, ?_, ?_⟩
          · exact (pk_un (by omega)).trans (h1 i hi).1
          · exact (pk_un (by omega)).trans (h1 i hi).2.1
          · exact (pk_un (by omega)).trans (h1 i hi).2.2) (fun i hi => by
          by_cases e : i = j
          · subst e
            exact pk_us
          · exact (pk_un (by omega)).trans (h2 i (by omega)))
  have firsts : ∀ (r j fu : Nat) (Q : QT), j + r = 10 → r < fu → (∀ i, i < j → q_ahead Q i = nI (k i) ∧ q_ahead Q (10 + i) = nI (w i) ∧ q_ahead Q (20 + i) = nI (l i)) → ∃ o, fX5_keep_ahead_L2 fu (nI j) (eM n c k w l d f wm hr b ch sd P Q) = some (eM n c k w l d f wm hr b ch sd P (qs_ahead Q o)) ∧ OldR o n c k w l d f wm hr b ch sd := by
    intro r
    induction r with
    | zero =>
      intro j fu Q e hf h1
      obtain rfl : j = 10 := by omega
      cases fu with
      | zero => omega
      | succ fu =>
        unfold fX5_keep_ahead_L2
        rw [if_pos (show (10 : Int32) ≤ nI 10 by decide)]
        exact mids 5 0 FU Q (by omega) (by show 5 < 1100; omega) h1 (fun i hi => by omega)
    | succ r ih =>
      intro j fu Q e hf h1
      cases fu with
      | zero => omega
      | succ fu =>
        unfold fX5_keep_ahead_L2
        rw [if_neg (show ¬ (10 : Int32) ≤ nI j from nI_ge (a := j) (b := 10) (by omega) (by omega)), show (10 : Int32) + nI j = nI (10 + j) from nI_add 10 j, show (20 : Int32) + nI j = nI (20 + j) from nI_add 20 j]
        simp only [bs, u_gd (show j < 10 by omega) (show 10 < 2 ^ 31 by decide), u_gd (show j < 39 by omega) (show 39 < 2 ^ 31 by decide), u_gd (show 10 + j < 39 by omega) (show 39 < 2 ^ 31 by decide), u_gd (show 20 + j < 39 by omega) (show 39 < 2 ^ 31 by decide), u_ix (show j < 2 ^ 31 by omega), u_ix (show 10 + j < 2 ^ 31 by omega), u_ix (show 20 + j < 2 ^ 31 by omega), f_ahead, fs_ahead, f_n, f_motes, f_kind, f_own, f_cell, f_doors, f_ways, f_seed, nI_1]
        exact ih (j + 1) fu _ (by omega) (by omega) (fun i hi => by
          by_cases e : i = j
          · subst e
            refine ⟨?_, ?_, ?_⟩
            · exact (pk_un (by omega)).trans ((pk_un (by omega)).trans pk_us)
            · exact (pk_un (by omega)).trans pk_us
            · exact pk_us
          · have := h1 i (by omega)
            refine ⟨?_, ?_, ?_⟩
            · exact (pk_un (by omega)).trans ((pk_un (by omega)).trans ((pk_un (by omega)).trans this.1))
            · exact (pk_un (by omega)).trans ((pk_un (by omega)).trans ((pk_un (by omega)).trans this.2.1))
            · exact (pk_un (by omega)).trans ((pk_un (by omega)).trans ((pk_un (by omega)).trans this.2.2)))
  exact firsts 10 0 FU Q (by omega) (by show 10 < 1100; omega) (fun i hi => by omega)
theorem m_again_ahead {n' c' : Nat} {k' w' l' : Nat → Nat} {d' f' wm' hr' b' ch' : Nat} {sd' : Int32} (hO : OldR (q_ahead Q) n' c' k' w' l' d' f' wm' hr' b' ch' sd') (hz : ∀ i, 10 ≤ i → k i = k' i ∧ w i = w' i ∧ l i = l' i) : fX5_again_ahead (eM n c k w l d f wm hr b ch sd P Q) = some (eM n' c' k' w' l' d' f' wm' hr' b' ch' sd' P Q) := by
  obtain ⟨h1, ⟨o0, o1, o2, o3, o4⟩, o5, o6, o7, o8⟩ := hO
  have last : ∀ (f wm hr b ch : Nat), f = f' → wm = wm' → hr = hr' → b = b' → ch = ch' → fX5_again_ahead_j72 (eM n c k' w' l' d f wm hr b ch sd P Q) = some (eM n' c' k' w' l' d' f' wm' hr' b' ch' sd' P Q) := by
    intro f wm hr b ch e1 e2 e3 e4 e5
    subst e1 e2 e3 e4 e5
    unfold fX5_again_ahead_j72
    have g35 : ∀ {α : Type} {o : Option α}, gd (inb (35 : Int32) 39) o = o := fun {α} {o} => u_gd (a := 35) (by omega) (by omega)
    have g36 : ∀ {α : Type} {o : Option α}, gd (inb (36 : Int32) 39) o = o := fun {α} {o} => u_gd (a := 36) (by omega) (by omega)
    have g37 : ∀ {α : Type} {o : Option α}, gd (inb (37 : Int32) 39) o = o := fun {α} {o} => u_gd (a := 37) (by omega) (by omega)
    have g38 : ∀ {α : Type} {o : Option α}, gd (inb (38 : Int32) 39) o = o := fun {α} {o} => u_gd (a := 38) (by omega) (by omega)
    have i35 : ix (35 : Int32) = 35 := by decide
    have i36 : ix (36 : Int32) = 36 := by decide
    have i37 : ix (37 : Int32) = 37 := by decide
    have i38 : ix (38 : Int32) = 38 := by decide
    simp only [bs, g35, g36, g37, g38, i35, i36, i37, i38, f_ahead, o5, o6, o7, o8, fs_n, fs_motes, fs_doors, fs_seed]
  have mids : ∀ (r j fu : Nat) (f wm hr b ch : Nat), j + r = 5 → r < fu → (0 < j → f = f') → (1 < j → wm = wm') → (2 < j → hr = hr') → (3 < j → b = b') → (4 < j → ch = ch') → fX5_again_ahead_L49 fu (nI j) (eM n c k' w' l' d f wm hr b ch sd P Q) = some (eM n' c' k' w' l' d' f' wm' hr' b' ch' sd' P Q) := by
    intro r
    induction r with
    | zero =>
      intro j fu f wm hr b ch e hf e1 e2 e3 e4 e5
      obtain rfl : j = 5 := by omega
      cases fu with
      | zero => omega
      | succ fu =>
        unfold fX5_again_ahead_L49
        rw [if_pos (show (5 : Int32) ≤ nI 5 by decide)]
        exact last f wm hr b ch (e1 (by omega)) (e2 (by omega)) (e3 (by omega)) (e4 (by omega)) (e5 (by omega))
    | succ r ih =>
      intro j fu f wm hr b ch e hf e1 e2 e3 e4 e5
      cases fu with
      | zero => omega
      | succ fu =>
        unfold fX5_again_ahead_L49
        rw [if_neg (show ¬ (5 : Int32) ≤ nI j from nI_ge (a := j) (b := 5) (by omega) (by omega)), show (30 : Int32) + nI j = nI (30 + j) from nI_add 30 j]
        simp only [bs, u_gd (show j < 5 by omega) (show 5 < 2 ^ 31 by decide), u_gd (show 30 + j < 39 by omega) (show 39 < 2 ^ 31 by decide), u_ix (show j < 2 ^ 31 by omega), u_ix (show 30 + j < 2 ^ 31 by omega), f_ahead, f_ways, nI_1]
        have : j = 0 ∨ j = 1 ∨ j = 2 ∨ j = 3 ∨ j = 4 := by omega
        rcases this with rfl | rfl | rfl | rfl | rfl
        · rw [o0, wy_s0, fs_ways]
          exact ih 1 fu _ _ _ _ _ (by omega) (by omega) (fun _ => rfl) (by omega) (by omega) (by omega) (by omega)
        · rw [o1, wy_s1, fs_ways]
          exact ih 2 fu _ _ _ _ _ (by omega) (by omega) (fun _ => e1 (by omega)) (fun _ => rfl) (by omega) (by omega) (by omega)
        · rw [o2, wy_s2, fs_ways]
          exact ih 3 fu _ _ _ _ _ (by omega) (by omega) (fun _ => e1 (by omega)) (fun _ => e2 (by omega)) (fun _ => rfl) (by omega) (by omega)
        · rw [o3, wy_s3, fs_ways]
          exact ih 4 fu _ _ _ _ _ (by omega) (by omega) (fun _ => e1 (by omega)) (fun _ => e2 (by omega)) (fun _ => e3 (by omega)) (fun _ => rfl) (by omega)
        · rw [o4, wy_s4, fs_ways]
          exact ih 5 fu _ _ _ _ _ (by omega) (by omega) (fun _ => e1 (by omega)) (fun _ => e2 (by omega)) (fun _ => e3 (by omega)) (fun _ => e4 (by omega)) (fun _ => rfl)
  have firsts : ∀ (r j fu : Nat), j + r = 10 → r < fu → fX5_again_ahead_L2 fu (nI j) (eM n c (fun i => if i < j then k' i else k i) (fun i => if i < j then w' i else w i) (fun i => if i < j then l' i else l i) d f wm hr b ch sd P Q) = some (eM n' c' k' w' l' d' f' wm' hr' b' ch' sd' P Q) := by
    intro r
    induction r with
    | zero =>
      intro j fu e hf
      obtain rfl : j = 10 := by omega
      cases fu with
      | zero => omega
      | succ fu =>
        unfold fX5_again_ahead_L2
        rw [if_pos (show (10 : Int32) ≤ nI 10 by decide)]
        have a1 : (fun i => if i < 10 then k' i else k i) = k' := funext fun i => by
          by_cases q : i < 10
          · rw [if_pos q]
          · rw [if_neg q, (hz i (by omega)).1]
        have a2 : (fun i => if i < 10 then w' i else w i) = w' := funext fun i => by
          by_cases q : i < 10
          · rw [if_pos q]
          · rw [if_neg q, (hz i (by omega)).2.1]
        have a3 : (fun i => if i < 10 then l' i else l i) = l' := funext fun i => by
          by_cases q : i < 10
          · rw [if_pos q]
          · rw [if_neg q, (hz i (by omega)).2.2]
        rw [a1, a2, a3]
        exact mids 5 0 FU f wm hr b ch (by omega) (by show 5 < 1100; omega) (by omega) (by omega) (by omega) (by omega) (by omega)
    | succ r ih =>
      intro j fu e hf
      cases fu with
      | zero => omega
      | succ fu =>
        unfold fX5_again_ahead_L2
        rw [if_neg (show ¬ (10 : Int32) ≤ nI j from nI_ge (a := j) (b := 10) (by omega) (by omega)), show (10 : Int32) + nI j = nI (10 + j) from nI_add 10 j, show (20 : Int32) + nI j = nI (20 + j) from nI_add 20 j]
        have up1 : ∀ (a a' : Nat → Nat), upd (fun i => nI (if i < j then a' i else a i)) j (nI (a' j)) = fun i => nI (if i < j + 1 then a' i else a i) := fun a a' => u_upd (l := fun i => if i < j then a' i else a i) (l' := fun i => if i < j + 1 then a' i else a i) (fun i hi => by
          by_cases q : i < j
          · rw [if_pos q, if_pos (by omega)]
          · rw [if_neg q, if_neg (by omega)]) (if_pos (Nat.lt_succ_self j))
        have j1 := h1 j (by omega)
        simp only [bs, u_gd (show j < 10 by omega) (show 10 < 2 ^ 31 by decide), u_gd (show j < 39 by omega) (show 39 < 2 ^ 31 by decide), u_gd (show 10 + j < 39 by omega) (show 39 < 2 ^ 31 by decide), u_gd (show 20 + j < 39 by omega) (show 39 < 2 ^ 31 by decide), u_ix (show j < 2 ^ 31 by omega), u_ix (show 10 + j < 2 ^ 31 by omega), u_ix (show 20 + j < 2 ^ 31 by omega), f_ahead, f_n, f_motes, f_kind, f_own, f_cell, f_doors, f_ways, f_seed, nI_1, j1.1, j1.2.1, j1.2.2]
        simp only [up1, fs_kind, f_ahead, j1.1, j1.2.1, j1.2.2, f_n, f_motes, f_kind, f_own, f_cell, f_doors, f_ways, f_seed, fs_own, fs_cell]
        exact ih (j + 1) fu (by omega) (by omega)
  have := firsts 10 0 FU (by omega) (by show 10 < 1100; omega)
  exact this

theorem c_image (hR : Rel S M) : Out (fX4_image S) (fX5_image M) := by
  obtain ⟨n, c, k, w, l, d, f, wm, hr, b, ch, sd, P, Q, hx, rfl, h, hX⟩ := hR
  unfold fX4_image fX5_image
  rw [hx, x_take hX.1.2.1 h.zh, fs_imaged]
  obtain ⟨o, e, hO⟩ := m_keep_old (n := n) (c := c) (k := k) (w := w) (l := l) (d := d) (f := f) (wm := wm) (hr := hr) (b := b) (ch := ch) (sd := sd) (P := ps_imaged P 1) (Q := Q)
  rw [e]
  simp only [bs]
  refine ⟨_, _, _, rfl, rfl, n, c, k, w, l, d, f, wm, hr, b, ch, sd, _, _, hx, rfl, h, ?_⟩
  obtain ⟨z1, z2, z3, z4, z5⟩ := hX
  exact ⟨⟨z1.1, h.zh, z1.2.2⟩, z2, z3, z4, Or.inr ⟨rfl, rfl, n, c, k, w, l, d, f, wm, hr, b, ch, sd, rfl, h, hO⟩⟩
theorem backL {c0 : Nat} (hc : c ≤ 10) (hc0 : c0 ≤ 10) : ∀ (r s fu : Nat) (S : XT) (P : PT), s + r = 8 → r < fu → x_now S = (eH n c k w l d f wm hr b ch sd) → HI n c k w l d f wm hr b ch → ZR S → TapeR (x_tape S) P → RefR S P → KeptR S P → (∀ t, t < s → ShR (x_sh S t) (p_holding P t) (p_rowLength P t) (fun i => p_rowOf P (40 * t + i)) c) → (∀ t, s ≤ t → t < 8 → ShR (x_sh S t) (p_holding P t) (p_rowLength P t) (fun i => p_rowOf P (40 * t + i)) c0) → Out (fX4_back_L27 fu (nI s) S) (fX5_back_L24 fu (nI s) (eM n c k w l d f wm hr b ch sd P Q)) := by
  intro r
  induction r with
  | zero =>
    intro s fu S P e hf hx h z1 z3 z4 z5 hs1 hs2
    obtain rfl : s = 8 := by omega
    cases fu with
    | zero => omega
    | succ fu =>
      unfold fX4_back_L27 fX5_back_L24
      rw [if_pos (show (8 : Int32) ≤ nI 8 by decide), if_pos (show (8 : Int32) ≤ nI 8 by decide)]
      exact ⟨_, _, _, rfl, rfl, rel_s hx h ⟨z1, hs1, z3, z4, z5⟩⟩
  | succ r ih =>
    intro s fu S P e hf hx h z1 z3 z4 z5 hs1 hs2
    cases fu with
    | zero => omega
    | succ fu =>
      have hs : s < 8 := by omega
      have h8 : ¬ (8 : Int32) ≤ nI s := nI_ge (a := s) (b := 8) (by omega) (by omega)
      unfold fX4_back_L27 fX5_back_L24 fX4_back_j71 fX5_back_j53
      simp only [if_neg h8, u_gd hs (show 8 < 2 ^ 31 by decide), u_ix (show s < 2 ^ 31 by omega), f_holding, f_motes, bs]
      rw [show (10 : Int32) + nI c = nI (10 + c) from nI_add 10 c, nI_1]
      have keep : ShR (x_sh S s) (p_holding P s) (p_rowLength P s) (fun i => p_rowOf P (40 * s + i)) c → Out (fX4_back_L27 fu (nI (s + 1)) S) (fX5_back_L24 fu (nI (s + 1)) (eM n c k w l d f wm hr b ch sd P Q)) := by
        intro hh
        refine ih (s + 1) fu S P (by omega) (by omega) hx h z1 z3 z4 z5 (fun t ht => ?_) (fun t ht1 ht2 => hs2 t (by omega) ht2)
        by_cases q : t = s
        · subst q
          exact hh
        · exact hs1 t (by omega)
      rcases hs2 s (Nat.le_refl _) hs with ⟨a1, a2⟩ | ⟨a1, a2, a3, a4⟩ | ⟨a1, m, hm, a2, a3⟩
      · rw [if_neg (by rw [a1]; decide), if_pos (show p_holding P s < nI (10 + c) by
          rw [a2]
          apply Int32.lt_iff_toInt_lt.mpr
          rw [nI_toInt (by omega), show (cI (-1)).toInt = -1 by decide]
          omega)]
        exact keep (Or.inl ⟨a1, a2⟩)
      · obtain ⟨st, hst, b1, b2⟩ := a2
        rw [if_neg (by rw [a1]; decide), if_pos (show p_holding P s < nI (10 + c) by
          rw [b2]
          exact nI_lt (by omega) (by omega))]
        exact keep (Or.inr (Or.inl ⟨a1, ⟨st, hst, b1, b2⟩, a3, a4⟩))
      · rw [if_pos a1, a2, a3]
        unfold fX4_isMote
        rw [hx, e_count, if_neg (nI_pos (show m < 2 ^ 31 by omega))]
        by_cases q : m < c
        · rw [if_neg (nI_ge q (by omega)), if_pos (nI_lt (show 10 + m < 10 + c by omega) (by omega))]
          simp only [bs, one0, ↓reduceIte]
          exact keep (Or.inr (Or.inr ⟨a1, m, q, a2, a3⟩))
        · rw [if_pos (nI_le (show c ≤ m by omega) (by omega)), if_neg (nI_nlt (show 10 + c ≤ 10 + m by omega) (by omega))]
          simp only [bs, ↓reduceIte]
          unfold fX2_clear
          simp only [bs]
          rw [fs_holding]
          refine ih (s + 1) fu (xs_sh S (va_up (x_sh S) s (shs_held (x_sh S s) 0))) (ps_holding P (upd (p_holding P) s (cI (-1)))) (by omega) (by omega) hx h z1 z3 z4 z5 (fun t ht => ?_) (fun t ht1 ht2 => ?_)
          · show ShR (va_up (x_sh S) s (shs_held (x_sh S s) 0) t) (upd (p_holding P) s (cI (-1)) t) (p_rowLength P t) (fun i => p_rowOf P (40 * t + i)) c
            by_cases q : t = s
            · subst q
              rw [va_up_self, pk_us]
              exact Or.inl ⟨rfl, rfl⟩
            · rw [va_up_ne _ _ q, pk_un q]
              exact hs1 t (by omega)
          · show ShR (va_up (x_sh S) s (shs_held (x_sh S s) 0) t) (upd (p_holding P) s (cI (-1)) t) (p_rowLength P t) (fun i => p_rowOf P (40 * t + i)) c0
            rw [va_up_ne _ _ (by omega), pk_un (by omega)]
            exact hs2 t (by omega) ht2
theorem c_back (hR : Rel S M) : Out (fX4_back S) (fX5_back M) := by
  obtain ⟨n, c, k, w, l, d, f, wm, hr, b, ch, sd, P, Q, hx, rfl, h, hX⟩ := hR
  have hR := rel_s (Q := Q) hx h hX
  unfold fX4_back fX5_back
  rw [f_imaged]
  obtain ⟨z1, z2, z3, z4, z5⟩ := hX
  rcases z5 with ⟨a1, a2⟩ | ⟨a1, a2, n', c', k', w', l', d', f', wm', hr', b', ch', sd', e, h', hO⟩
  · rw [if_pos a1, if_pos a2]
    exact out5 hR
  · rw [if_neg (by rw [a1]; decide), if_neg (by rw [a2]; decide), e, hx, x_take h.zh h'.zh, m_again_old hO (fun i hi => by
      obtain ⟨q1, q2, q3⟩ := h.z hi
      obtain ⟨r1, r2, r3⟩ := h'.z hi
      rw [q1, q2, q3, r1, r2, r3]
      exact ⟨rfl, rfl, rfl⟩)]
    simp only [bs]
    exact backL (c0 := c) h'.hc h.hc 8 0 FU (xs_now S _) P (by omega) (by show 8 < 1100; omega) rfl h' z1 z3 z4 (Or.inr ⟨a1, a2, n', c', k', w', l', d', f', wm', hr', b', ch', sd', e, h', hO⟩) (fun t ht => by omega) (fun t _ ht => z2 t ht)
theorem fillS (hX : RX S P c) (hc : c ≤ 10) : ∃ y, fX4_filledShelves S = some y ∧ fX5_status_L96 p1 (eM n c k w l d f wm hr b ch sd P Q) FU (0 : Int32) (0 : Int32) = some y := by
  have q : ∀ (r s fu : Nat) (a : Int32), s + r = 8 → r < fu → ∃ y, fX4_filledShelves_L4 S fu a (nI s) = some y ∧ fX5_status_L96 p1 (eM n c k w l d f wm hr b ch sd P Q) fu a (nI s) = some y := by
    intro r
    induction r with
    | zero =>
      intro s fu a e hf
      obtain rfl : s = 8 := by omega
      cases fu with
      | zero => omega
      | succ fu =>
        unfold fX4_filledShelves_L4 fX5_status_L96
        rw [if_pos (show (8 : Int32) ≤ nI 8 by decide), if_pos (show (8 : Int32) ≤ nI 8 by decide)]
        exact ⟨a, rfl, rfl⟩
    | succ r ih =>
      intro s fu a e hf
      cases fu with
      | zero => omega
      | succ fu =>
        have hs : s < 8 := by omega
        have h8 : ¬ (8 : Int32) ≤ nI s := nI_ge (a := s) (b := 8) (by omega) (by omega)
        unfold fX4_filledShelves_L4 fX5_status_L96 fX4_filledShelves_j28 fX5_status_j115 fX4_bit
        simp only [if_neg h8, u_gd hs (show 8 < 2 ^ 31 by decide), u_ix (show s < 2 ^ 31 by omega), f_holding, bs, nI_1, one0, ↓reduceIte, Int32.add_zero]
        rcases hX.2.1 s hs with ⟨a1, a2⟩ | ⟨a1, ⟨st, hst, b1, b2⟩, a3, a4⟩ | ⟨a1, m, hm, a2, a3⟩
        · rw [if_pos a1, if_pos a2]
          exact ih (s + 1) fu a (by omega) (by omega)
        · rw [if_neg (by rw [a1]; decide), if_neg (by rw [b2]; exact m1n (by omega))]
          exact ih (s + 1) fu _ (by omega) (by omega)
        · rw [if_neg (by rw [a1]; decide), if_neg (by rw [a3]; exact m1n (by omega))]
          exact ih (s + 1) fu _ (by omega) (by omega)
  exact q 8 0 FU 0 (by omega) (by show 8 < 1100; omega)
theorem c_status (hR : Rel S M) : ∃ r, fX4_status p1 S = some r ∧ fX5_status p1 M = some r := by
  obtain ⟨n, c, k, w, l, d, f, wm, hr, b, ch, sd, P, Q, hx, rfl, h, hX⟩ := hR
  have hc := h.hc
  obtain ⟨y, y1, y2⟩ := fillS (n := n) (k := k) (w := w) (l := l) (d := d) (f := f) (wm := wm) (hr := hr) (b := b) (ch := ch) (sd := sd) (P := P) (Q := Q) (p1 := p1) hX hc
  obtain ⟨hB, z, hz, t1, t2⟩ := hX.2.2.1
  have far : ¬ p1 < 0 → ¬ p1 ≤ 16 → ∃ r, fX4_status p1 S = some r ∧ fX5_status p1 (eM n c k w l d f wm hr b ch sd P Q) = some r := by
    intro g1 g2
    obtain ⟨j, hj, rfl⟩ := nI_of g1
    have hj16 : 16 < j := by
      rcases Nat.lt_or_ge 16 j with q | q
      · exact q
      · exact absurd (nI_le (a := j) (b := 16) q (by omega)) g2
    have ne : ∀ (i : Int32) (m : Nat), i = nI m → m < 17 → ¬ nI j = i := fun i m e hi q => by
      rw [e] at q
      have := (nI_eq (by omega) (by omega)).mp q
      omega
    refine ⟨cI (-1), ?_, ?_⟩
    · unfold fX4_status fX4_status_j117 fX4_status_j141 fX4_refused
      rw [if_neg (ne 0 0 rfl (by omega)), if_neg (ne 1 1 rfl (by omega)), if_neg (ne 2 2 rfl (by omega)), if_neg (ne 3 3 rfl (by omega)), if_neg (ne 4 4 rfl (by omega)), if_neg (ne 5 5 rfl (by omega)), if_neg (ne 6 6 rfl (by omega)), if_neg (ne 7 7 rfl (by omega)), if_neg (ne 8 8 rfl (by omega)), if_neg (ne 9 9 rfl (by omega)), if_neg (ne 10 10 rfl (by omega)), if_neg (ne 11 11 rfl (by omega))]
      rw [if_neg (show ¬ nI j < (3 : Int32) from nI_nlt (a := j) (b := 3) (by omega) (by omega)), if_pos (show (7 : Int32) < nI j from nI_lt (a := 7) (b := j) (by omega) (by omega)), if_neg (show ¬ nI j < (12 : Int32) from nI_nlt (a := j) (b := 12) (by omega) (by omega)), show nI j - (12 : Int32) = nI (j - 12) from pk_sub (a := j) (b := 12) (by omega), if_pos (show (5 : Int32) ≤ nI (j - 12) from nI_le (a := 5) (b := j - 12) (by omega) (by omega))]
      rfl
    · unfold fX5_status fX5_status_j123 fX5_within
      rw [if_neg (ne 0 0 rfl (by omega)), if_neg (ne 1 1 rfl (by omega)), if_neg (ne 2 2 rfl (by omega)), if_neg (ne 3 3 rfl (by omega)), if_neg (ne 4 4 rfl (by omega)), if_neg (ne 5 5 rfl (by omega)), if_neg (ne 6 6 rfl (by omega)), if_neg (ne 7 7 rfl (by omega)), if_neg (ne 8 8 rfl (by omega)), if_neg (ne 9 9 rfl (by omega)), if_neg (ne 10 10 rfl (by omega)), if_neg (ne 11 11 rfl (by omega))]
      rw [if_neg (show ¬ nI j < (3 : Int32) from nI_nlt (a := j) (b := 3) (by omega) (by omega)), if_pos (show (7 : Int32) < nI j from nI_lt (a := 7) (b := j) (by omega) (by omega)), if_neg (show ¬ nI j < (12 : Int32) from nI_nlt (a := j) (b := 12) (by omega) (by omega)), if_pos (show (16 : Int32) < nI j from nI_lt (a := 16) (b := j) (by omega) (by omega))]
      rfl
  rcases in3 (N := 16) (16 : Int32) p1 rfl (by decide) with g | ⟨g1, g2, g3⟩ | ⟨t, ht, rfl, g1, g2, g3⟩
  · have ne : ∀ i : Int32, ¬ i < 0 → ¬ p1 = i := fun i hi q => hi (q ▸ g)
    have l3 : p1 < 3 := by
      apply Int32.lt_iff_toInt_lt.mpr
      have := Int32.lt_iff_toInt_lt.mp g
      rw [show (0 : Int32).toInt = 0 by decide] at this
      rw [show (3 : Int32).toInt = 3 by decide]
      omega
    have l12 : p1 < 12 := by
      apply Int32.lt_iff_toInt_lt.mpr
      have := Int32.lt_iff_toInt_lt.mp g
      rw [show (0 : Int32).toInt = 0 by decide] at this
      rw [show (12 : Int32).toInt = 12 by decide]
      omega
    refine ⟨cI (-1), ?_, ?_⟩
    · unfold fX4_status fX4_status_j117 fX4_status_j141 fX4_refused
      rw [if_neg (ne 0 (by decide)), if_neg (ne 1 (by decide)), if_neg (ne 2 (by decide)), if_neg (ne 3 (by decide)), if_neg (ne 4 (by decide)), if_neg (ne 5 (by decide)), if_neg (ne 6 (by decide)), if_neg (ne 7 (by decide)), if_neg (ne 8 (by decide)), if_neg (ne 9 (by decide)), if_neg (ne 10 (by decide)), if_neg (ne 11 (by decide)), if_pos l3, if_pos l12]
      rfl
    · unfold fX5_status fX5_status_j123 fX5_within
      rw [if_neg (ne 0 (by decide)), if_neg (ne 1 (by decide)), if_neg (ne 2 (by decide)), if_neg (ne 3 (by decide)), if_neg (ne 4 (by decide)), if_neg (ne 5 (by decide)), if_neg (ne 6 (by decide)), if_neg (ne 7 (by decide)), if_neg (ne 8 (by decide)), if_neg (ne 9 (by decide)), if_neg (ne 10 (by decide)), if_neg (ne 11 (by decide)), if_pos l3, if_pos l12]
      rfl
  · exact far g1 g3
  clear far
  unfold fX4_status fX5_status fX4_status_j117 fX4_status_j141 fX4_refused fX5_status_j123 fX5_within fX1_told
  rw [y1, y2, hx, t1, x_wia hc, m_aw hc]
  simp only [bs, e_side, e_count, e_kind, e_weight, e_cell, e_doors, e_fan, e_warm, e_hour, e_beam, e_chance, e_seed, f_n, f_motes, f_kind, f_own, f_cell, f_doors, f_ways, f_seed, f_taped, t2, f_refusals]
  have ht16 : t = 0 ∨ t = 1 ∨ t = 2 ∨ t = 3 ∨ t = 4 ∨ t = 5 ∨ t = 6 ∨ t = 7 ∨ t = 8 ∨ t = 9 ∨ t = 10 ∨ t = 11 ∨ t = 12 ∨ t = 13 ∨ t = 14 ∨ t = 15 ∨ t = 16 := by omega
  have r5 : ∀ (i : Nat) (q1 q2 : Int32), i < 5 → q1 = nI i → q2 = nI (i + 2) → gd (inb q1 5) (some (x_refusals S (ix q1))) = gd (inb q2 7) (some (p_refusals P (ix q2))) ∧ gd (inb q2 7) (some (p_refusals P (ix q2))) = some (p_refusals P (i + 2)) := by
    intro i q1 q2 hi e1 e2
    rw [e1, e2, u_gd hi (by omega), u_gd (show i + 2 < 7 by omega) (by omega), u_ix (by omega), u_ix (by omega), hX.2.2.2.1 i hi]
    exact ⟨rfl, rfl⟩
  rcases ht16 with rfl | rfl | rfl | rfl | rfl | rfl | rfl | rfl | rfl | rfl | rfl | rfl | rfl | rfl | rfl | rfl | rfl
  all_goals simp (decide := true) only [↓reduceIte, bs]
  all_goals first
    | exact ⟨_, rfl, rfl⟩
    | skip
  · obtain ⟨u1, u2⟩ := r5 0 (nI 12 - 12) (nI 12 - 10) (by omega) (by decide) (by decide)
    exact ⟨_, u1.trans u2, u2⟩
  · obtain ⟨u1, u2⟩ := r5 1 (nI 13 - 12) (nI 13 - 10) (by omega) (by decide) (by decide)
    exact ⟨_, u1.trans u2, u2⟩
  · obtain ⟨u1, u2⟩ := r5 2 (nI 14 - 12) (nI 14 - 10) (by omega) (by decide) (by decide)
    exact ⟨_, u1.trans u2, u2⟩
  · obtain ⟨u1, u2⟩ := r5 3 (nI 15 - 12) (nI 15 - 10) (by omega) (by decide) (by decide)
    exact ⟨_, u1.trans u2, u2⟩
  · obtain ⟨u1, u2⟩ := r5 4 (nI 16 - 12) (nI 16 - 10) (by omega) (by decide) (by decide)
    exact ⟨_, u1.trans u2, u2⟩
end C5
