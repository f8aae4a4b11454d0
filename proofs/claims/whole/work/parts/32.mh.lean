/-! ===== pure layer: the reference's hall ===== -/
abbrev PT : Type := Int32 × (Nat → Int32) × (Nat → Int32) × (Nat → Int32) × (Nat → Int64) × (Nat → Int32) × Int32 × (Nat → Int32)
abbrev QT : Type := Int32 × Int32 × Int32 × Int32 × (Nat → Int32) × (Nat → Int32) × Int32 × (Nat → Int32) × (Nat → Int32) × Int64 × Int64
def wy (f wm hr b ch : Nat) : Nat → Int32 := fun i => if i = 0 then nI f else if i = 1 then nI wm else if i = 2 then nI hr else if i = 3 then nI b else if i = 4 then nI ch else 0
def eM (n c : Nat) (k w l : Nat → Nat) (d f wm hr b ch : Nat) (sd : Int32) (P : PT) (Q : QT) : MT := (nI n, nI c, fun i => nI (k i), fun i => nI (w i), fun i => nI (l i), nI d, wy f wm hr b ch, sd, P.1, P.2.1, Q.1, Q.2.1, Q.2.2.1, Q.2.2.2.1, P.2.2.1, P.2.2.2.1, P.2.2.2.2.1, P.2.2.2.2.2.1, P.2.2.2.2.2.2.1, P.2.2.2.2.2.2.2, Q.2.2.2.2.1, Q.2.2.2.2.2.1, Q.2.2.2.2.2.2.1, Q.2.2.2.2.2.2.2.1, Q.2.2.2.2.2.2.2.2.1, Q.2.2.2.2.2.2.2.2.2.1, Q.2.2.2.2.2.2.2.2.2.2)
def q_was (Q : QT) : Nat → Int32 := Q.2.2.2.2.2.1
def q_wasHour (Q : QT) : Int32 := Q.2.2.2.2.2.2.1
def qs_was (Q : QT) (v : Nat → Int32) : QT := (Q.1, Q.2.1, Q.2.2.1, Q.2.2.2.1, Q.2.2.2.2.1, v, Q.2.2.2.2.2.2)
def qs_wasHour (Q : QT) (v : Int32) : QT := (Q.1, Q.2.1, Q.2.2.1, Q.2.2.2.1, Q.2.2.2.2.1, Q.2.2.2.2.2.1, v, Q.2.2.2.2.2.2.2)
section M0
variable {n c : Nat} {k w l : Nat → Nat} {d f wm hr b ch : Nat} {sd : Int32} {P : PT} {Q : QT}
theorem f_n : m_n (eM n c k w l d f wm hr b ch sd P Q) = nI n := id rfl
theorem f_motes : m_motes (eM n c k w l d f wm hr b ch sd P Q) = nI c := id rfl
theorem f_kind : m_kind (eM n c k w l d f wm hr b ch sd P Q) = fun i => nI (k i) := id rfl
theorem f_own : m_own (eM n c k w l d f wm hr b ch sd P Q) = fun i => nI (w i) := id rfl
theorem f_cell : m_cell (eM n c k w l d f wm hr b ch sd P Q) = fun i => nI (l i) := id rfl
theorem f_doors : m_doors (eM n c k w l d f wm hr b ch sd P Q) = nI d := id rfl
theorem f_ways : m_ways (eM n c k w l d f wm hr b ch sd P Q) = wy f wm hr b ch := id rfl
theorem f_seed : m_seed (eM n c k w l d f wm hr b ch sd P Q) = sd := id rfl
theorem f_was : m_was (eM n c k w l d f wm hr b ch sd P Q) = q_was Q := id rfl
theorem f_wasHour : m_wasHour (eM n c k w l d f wm hr b ch sd P Q) = q_wasHour Q := id rfl
theorem fs_cell {v : Nat → Nat} : ms_cell (eM n c k w l d f wm hr b ch sd P Q) (fun i => nI (v i)) = eM n c k w v d f wm hr b ch sd P Q := id rfl
theorem fs_kind {v : Nat → Nat} : ms_kind (eM n c k w l d f wm hr b ch sd P Q) (fun i => nI (v i)) = eM n c v w l d f wm hr b ch sd P Q := id rfl
theorem fs_doors {v : Nat} : ms_doors (eM n c k w l d f wm hr b ch sd P Q) (nI v) = eM n c k w l v f wm hr b ch sd P Q := id rfl
theorem fs_ways {f' wm' hr' b' ch' : Nat} : ms_ways (eM n c k w l d f wm hr b ch sd P Q) (wy f' wm' hr' b' ch') = eM n c k w l d f' wm' hr' b' ch' sd P Q := id rfl
theorem fs_seed {v : Int32} : ms_seed (eM n c k w l d f wm hr b ch sd P Q) v = eM n c k w l d f wm hr b ch v P Q := id rfl
theorem fs_was {v : Nat → Int32} : ms_was (eM n c k w l d f wm hr b ch sd P Q) v = eM n c k w l d f wm hr b ch sd P (qs_was Q v) := id rfl
theorem fs_wasHour {v : Int32} : ms_wasHour (eM n c k w l d f wm hr b ch sd P Q) v = eM n c k w l d f wm hr b ch sd P (qs_wasHour Q v) := id rfl
theorem wy_g0 : wy f wm hr b ch 0 = nI f := id rfl
theorem wy_g1 : wy f wm hr b ch 1 = nI wm := id rfl
theorem wy_g2 : wy f wm hr b ch 2 = nI hr := id rfl
theorem wy_g3 : wy f wm hr b ch 3 = nI b := id rfl
theorem wy_g4 : wy f wm hr b ch 4 = nI ch := id rfl
theorem wy_s0 {x : Nat} : upd (wy f wm hr b ch) 0 (nI x) = wy x wm hr b ch := by
  funext i
  unfold upd wy
  repeat' split
  all_goals first | rfl | omega
theorem wy_s1 {x : Nat} : upd (wy f wm hr b ch) 1 (nI x) = wy f x hr b ch := by
  funext i
  unfold upd wy
  repeat' split
  all_goals first | rfl | omega
theorem wy_s2 {x : Nat} : upd (wy f wm hr b ch) 2 (nI x) = wy f wm x b ch := by
  funext i
  unfold upd wy
  repeat' split
  all_goals first | rfl | omega
theorem wy_s3 {x : Nat} : upd (wy f wm hr b ch) 3 (nI x) = wy f wm hr x ch := by
  funext i
  unfold upd wy
  repeat' split
  all_goals first | rfl | omega
theorem wy_s4 {x : Nat} : upd (wy f wm hr b ch) 4 (nI x) = wy f wm hr b x := by
  funext i
  unfold upd wy
  repeat' split
  all_goals first | rfl | omega
theorem ix0 : ix (0 : Int32) = 0 := by decide
theorem ix1 : ix (1 : Int32) = 1 := by decide
theorem ix2 : ix (2 : Int32) = 2 := by decide
theorem ix3 : ix (3 : Int32) = 3 := by decide
theorem ix4 : ix (4 : Int32) = 4 := by decide
theorem g05 {α : Type} {o : Option α} : gd (inb (0 : Int32) 5) o = o := u_gd (a := 0) (by omega) (by omega)
theorem g15 {α : Type} {o : Option α} : gd (inb (1 : Int32) 5) o = o := u_gd (a := 1) (by omega) (by omega)
theorem g25 {α : Type} {o : Option α} : gd (inb (2 : Int32) 5) o = o := u_gd (a := 2) (by omega) (by omega)
theorem g35 {α : Type} {o : Option α} : gd (inb (3 : Int32) 5) o = o := u_gd (a := 3) (by omega) (by omega)
theorem g45 {α : Type} {o : Option α} : gd (inb (4 : Int32) 5) o = o := u_gd (a := 4) (by omega) (by omega)
end M0
def P0 : PT := (0, fun _ => 0, fun _ => 0, fun _ => 0, fun _ => 0, fun _ => 0, 0, fun _ => 0)
def Q0 : QT := (0, 0, 0, 0, fun _ => 0, fun _ => 0, 0, fun _ => 0, fun _ => 0, 0, 0)
def mC (n d : Nat) : MT := eM n 0 (fun _ => 0) (fun _ => 0) (fun _ => 0) d 0 0 0 0 0 0 P0 Q0
theorem s_bd0 : ∀ e, e < 2 → ∀ d, d < 16 → ∀ r, r < 6 + e → ∀ q, q < 6 + e → fX5_byDoors (nI (10 * r + q)) (mC (6 + e) d) = some (nI (bd (6 + e) d (10 * r + q))) := by decide +kernel
theorem s_pu0 : ∀ e, e < 2 → ∀ r, r < 6 + e → ∀ q, q < 6 + e → (fX5_pushed (nI (10 * r + q)) (cI (-1)) (0 : Int32) (mC (6 + e) 0) = some (nI (bf (6 + e) 1 (10 * r + q))) ∧ fX5_pushed (nI (10 * r + q)) (0 : Int32) (1 : Int32) (mC (6 + e) 0) = some (nI (bf (6 + e) 2 (10 * r + q))) ∧ fX5_pushed (nI (10 * r + q)) (1 : Int32) (0 : Int32) (mC (6 + e) 0) = some (nI (bf (6 + e) 3 (10 * r + q))) ∧ fX5_pushed (nI (10 * r + q)) (0 : Int32) (cI (-1)) (mC (6 + e) 0) = some (nI (bf (6 + e) 4 (10 * r + q)))) := by decide +kernel
section M1
variable {n c : Nat} {k w l : Nat → Nat} {d f wm hr b ch : Nat} {sd : Int32} {P : PT} {Q : QT}
theorem m_bd {x : Nat} (hn : 6 ≤ n) (hn' : n ≤ 7) (hd : d < 16) (hx : isC n x) : fX5_byDoors (nI x) (eM n c k w l d f wm hr b ch sd P Q) = some (nI (bd n d x)) := by
  have e : 6 + (n - 6) = n := by omega
  obtain ⟨h1, h2⟩ := hx
  have := s_bd0 (n - 6) (by omega) d hd (x / 10) (by omega) (x % 10) (by omega)
  rw [e, isC_eq] at this
  rw [← this]
  rfl
theorem m_pu {x : Nat} (hn : 6 ≤ n) (hn' : n ≤ 7) (hx : isC n x) : fX5_pushed (nI x) (cI (-1)) (0 : Int32) (eM n c k w l d f wm hr b ch sd P Q) = some (nI (bf n 1 x)) ∧ fX5_pushed (nI x) (0 : Int32) (1 : Int32) (eM n c k w l d f wm hr b ch sd P Q) = some (nI (bf n 2 x)) ∧ fX5_pushed (nI x) (1 : Int32) (0 : Int32) (eM n c k w l d f wm hr b ch sd P Q) = some (nI (bf n 3 x)) ∧ fX5_pushed (nI x) (0 : Int32) (cI (-1)) (eM n c k w l d f wm hr b ch sd P Q) = some (nI (bf n 4 x)) := by
  have e : 6 + (n - 6) = n := by omega
  obtain ⟨h1, h2⟩ := hx
  have := s_pu0 (n - 6) (by omega) (x / 10) (by omega) (x % 10) (by omega)
  rw [e, isC_eq] at this
  obtain ⟨a1, a2, a3, a4⟩ := this
  refine ⟨?_, ?_, ?_, ?_⟩
  · rw [← a1]
    rfl
  · rw [← a2]
    rfl
  · rw [← a3]
    rfl
  · rw [← a4]
    rfl
theorem m_all {x : Nat} (hp : HP n d f wm b hr) (hx : isC n x) : fX5_byAll (nI x) (eM n c k w l d f wm hr b ch sd P Q) = some (nI (bf n f (bd n d x))) := by
  have hC := bd_C hp.1.1 hp.1.2 hp.2.1 hx
  have hf := hp.2.2.1
  obtain ⟨a1, a2, a3, a4⟩ := m_pu (c := c) (k := k) (w := w) (l := l) (d := d) (f := f) (wm := wm) (hr := hr) (b := b) (ch := ch) (sd := sd) (P := P) (Q := Q) hp.1.1 hp.1.2 hC
  unfold fX5_byAll
  rw [m_bd hp.1.1 hp.1.2 hp.2.1 hx]
  simp only [Option.bind_some, f_n, f_motes, f_kind, f_own, f_cell, f_doors, f_ways, f_seed, wy_g0, wy_g1, wy_g2, wy_g3, wy_g4, ix0, ix1, ix2, ix3, ix4, g05, g15, g25, g35, g45]
  rw [u_if (show nI f = (1 : Int32) ↔ f = 1 from nI_eq (a := f) (b := 1) (by omega) (by omega)), u_if (show nI f = (2 : Int32) ↔ f = 2 from nI_eq (a := f) (b := 2) (by omega) (by omega)), u_if (show nI f = (3 : Int32) ↔ f = 3 from nI_eq (a := f) (b := 3) (by omega) (by omega)), u_if (show nI f = (4 : Int32) ↔ f = 4 from nI_eq (a := f) (b := 4) (by omega) (by omega)), a1, a2, a3, a4]
  simp only [Option.bind_some]
  by_cases e1 : f = 1
  · subst e1; rfl
  by_cases e2 : f = 2
  · subst e2; rfl
  by_cases e3 : f = 3
  · subst e3; rfl
  by_cases e4 : f = 4
  · subst e4; rfl
  simp only [if_neg e1, if_neg e2, if_neg e3, if_neg e4, bf]
theorem m_bc {x h : Nat} (hn : 6 ≤ n) (hn' : n ≤ 7) (hh : h ≤ 999) (hb : b ≤ 6) (hx : x < 100) : fX5_beamIn (nI x) (nI h) (eM n c k w l d f wm hr b ch sd P Q) = some (nI ((h + b + x) % n)) := by
  unfold fX5_beamIn
  simp only [f_n, f_motes, f_kind, f_own, f_cell, f_doors, f_ways, f_seed, wy_g0, wy_g1, wy_g2, wy_g3, wy_g4, ix0, ix1, ix2, ix3, ix4, g05, g15, g25, g35, g45]
  rw [if_neg (nI_ne0 (by omega) (by omega)), nI_add, nI_add, u_irm (by omega) (by omega) (by omega)]
theorem m_lit {x h : Nat} (hn : 6 ≤ n) (hn' : n ≤ 7) (hh : h ≤ 999) (hb : b ≤ 6) (hx : x < 100) : fX5_isLit (nI x) (nI h) (eM n c k w l d f wm hr b ch sd P Q) = some (if lit n b h x then (1 : Int32) else 0) := by
  unfold fX5_isLit
  rw [u_div10 (by omega), m_bc hn hn' hh hb (by omega), u_irm10 (by omega)]
  have hlt : (h + b + x / 10) % n < n := Nat.mod_lt _ (by omega)
  show (if nI (x % 10) = nI ((h + b + x / 10) % n) then some (1 : Int32) else some 0) = _
  rw [u_if (nI_eq (a := x % 10) (b := (h + b + x / 10) % n) (by omega) (by omega))]
  by_cases q : x % 10 = (h + b + x / 10) % n
  · rw [if_pos q, if_pos q]
  · rw [if_neg q, if_neg q]
theorem mlit {x : Nat} (hp : HP n d f wm b hr) (hx : isC n x) : fX5_isLit (nI x) (nI hr) (eM n c k w l d f wm hr b ch sd P Q) = some (if lit n b hr x then (1 : Int32) else 0) := m_lit hp.1.1 hp.1.2 hp.2.2.2.2.1 hp.2.2.2.2.2 (by have := isC_lt hp.1.2 hx; omega)
theorem m_nh {x : Nat} (hp : HP n d f wm b hr) (hx : isC n x) : fX5_asHeavy (nI x) (eM n c k w l d f wm hr b ch sd P Q) = some (nI (nh n d f hr x)) := by
  unfold fX5_asHeavy nh
  rw [m_all hp hx]
  simp only [Option.bind_some, f_n, f_motes, f_kind, f_own, f_cell, f_doors, f_ways, f_seed, wy_g0, wy_g1, wy_g2, wy_g3, wy_g4, ix0, ix1, ix2, ix3, ix4, g05, g15, g25, g35, g45]
  rw [u_if (and1 hr (by have := hp.2.2.2.2.1; omega)).2.2.1]
  split <;> rfl
theorem m_nm {x : Nat} (hp : HP n d f wm b hr) (hx : isC n x) : fX5_asMote (nI x) (eM n c k w l d f wm hr b ch sd P Q) = some (nI (nm n d f wm hr x)) := by
  have hC := bf_C hp.1.1 hp.1.2 hp.2.2.1 (bd_C hp.1.1 hp.1.2 hp.2.1 hx)
  have hw := hp.2.2.2.1
  have hh := hp.2.2.2.2.1
  obtain ⟨a1, a2, a3, a4⟩ := m_pu (c := c) (k := k) (w := w) (l := l) (d := d) (f := f) (wm := wm) (hr := hr) (b := b) (ch := ch) (sd := sd) (P := P) (Q := Q) hp.1.1 hp.1.2 hC
  unfold fX5_asMote nm
  rw [m_all hp hx]
  simp only [Option.bind_some, f_n, f_motes, f_kind, f_own, f_cell, f_doors, f_ways, f_seed, wy_g0, wy_g1, wy_g2, wy_g3, wy_g4, ix0, ix1, ix2, ix3, ix4, g05, g15, g25, g35, g45]
  rw [a1, u_if (show nI wm ≤ (4 : Int32) ↔ wm ≤ 4 from nI_leI (a := wm) (b := 4) (by omega) (by omega)), u_if (and1 hr (by omega)).2.2.2]
  simp only [Option.bind_some]
  by_cases h : wm ≤ 4
  · rw [if_pos h, if_neg (by omega)]
  · rw [if_neg h]
    by_cases h2 : hr % 2 = 0
    · rw [if_pos h2, if_pos ⟨by omega, h2⟩]
      rfl
    · rw [if_neg h2, if_neg (fun e => h2 e.2)]
theorem m_sp {x : Nat} (hp : HP n d f wm b hr) (hx : isC n x) : fX5_asSpark (nI x) (eM n c k w l d f wm hr b ch sd P Q) = some (nI (if lit n b hr x then x else tb ((hr + b + nm n d f wm hr x / 10) % n) (nm n d f wm hr x))) := by
  have hC := nm_C (wm := wm) (hr := hr) hp.1.1 hp.1.2 hp.2.1 hp.2.2.1 hx
  have h67 := isC_lt hp.1.2 hC
  obtain ⟨a1, a2, a3, a4⟩ := m_pu (c := c) (k := k) (w := w) (l := l) (d := d) (f := f) (wm := wm) (hr := hr) (b := b) (ch := ch) (sd := sd) (P := P) (Q := Q) hp.1.1 hp.1.2 hC
  unfold fX5_asSpark fX5_asSpark_j65
  simp only [f_n, f_motes, f_kind, f_own, f_cell, f_doors, f_ways, f_seed, wy_g0, wy_g1, wy_g2, wy_g3, wy_g4, ix0, ix1, ix2, ix3, ix4, g05, g15, g25, g35, g45]
  rw [mlit hp hx]
  simp only [Option.bind_some]
  by_cases hl : lit n b hr x
  · simp only [if_pos hl, one0, ↓reduceIte]
  · simp only [if_neg hl, ↓reduceIte]
    rw [m_nm hp hx]
    simp only [Option.bind_some]
    rw [u_div10 (by omega), m_bc hp.1.1 hp.1.2 hp.2.2.2.2.1 hp.2.2.2.2.2 (by omega), u_irm10 (by omega)]
    simp only [Option.bind_some]
    have hlt : (hr + b + nm n d f wm hr x / 10) % n < n := Nat.mod_lt _ (by have := hp.1.1; omega)
    have hn7 := hp.1.2
    generalize (hr + b + nm n d f wm hr x / 10) % n = q at hlt
    generalize nm n d f wm hr x = y at *
    rw [a2, a4, u_if (nI_eq (a := q) (b := y % 10) (by omega) (by omega)), u_if (nI_leI (a := q) (b := y % 10) (by omega) (by omega))]
    simp only [Option.bind_some]
    unfold tb
    by_cases e : q = y % 10
    · rw [if_pos e, if_neg (by omega), if_neg (by omega)]
    · rw [if_neg e]
      by_cases e2 : q ≤ y % 10
      · rw [if_pos e2, if_pos (by omega)]
        simp [bf, show 0 < y % 10 by omega]
      · rw [if_neg e2, if_neg (by omega), if_pos (by omega)]
        simp [bf, show y % 10 + 1 < n by omega]
theorem m_goes {x kk : Nat} (hp : HP n d f wm b hr) (hk : kk ≤ 5) (hx : isC n x) : fX5_goes (nI kk) (nI x) (eM n c k w l d f wm hr b ch sd P Q) = some (nI (nxt n d f wm b hr kk x)) := by
  obtain ⟨a1, a2, a3, a4⟩ := m_pu (c := c) (k := k) (w := w) (l := l) (d := d) (f := f) (wm := wm) (hr := hr) (b := b) (ch := ch) (sd := sd) (P := P) (Q := Q) hp.1.1 hp.1.2 (nh_C (hr := hr) hp.1.1 hp.1.2 hp.2.1 hp.2.2.1 hx)
  unfold fX5_goes nxt
  simp only [f_n, f_motes, f_kind, f_own, f_cell, f_doors, f_ways, f_seed, wy_g0, wy_g1, wy_g2, wy_g3, wy_g4, ix0, ix1, ix2, ix3, ix4, g05, g15, g25, g35, g45]
  rw [u_if (show nI kk = (1 : Int32) ↔ kk = 1 from nI_eq (a := kk) (b := 1) (by omega) (by omega)), u_if (show nI kk = (2 : Int32) ↔ kk = 2 from nI_eq (a := kk) (b := 2) (by omega) (by omega)), u_if (show nI kk = (3 : Int32) ↔ kk = 3 from nI_eq (a := kk) (b := 3) (by omega) (by omega)), u_if (show nI kk = (4 : Int32) ↔ kk = 4 from nI_eq (a := kk) (b := 4) (by omega) (by omega)), u_if (show nI kk = (5 : Int32) ↔ kk = 5 from nI_eq (a := kk) (b := 5) (by omega) (by omega))]
  rw [m_nh hp hx, m_nm hp hx, mlit hp hx, m_bd hp.1.1 hp.1.2 hp.2.1 hx, m_sp hp hx]
  simp only [Option.bind_some]
  rw [a3]
  simp only [Option.bind_some]
  by_cases hl : lit n b hr x
  · simp only [if_pos hl, one0, ↓reduceIte]
    repeat' split
    all_goals rfl
  · simp only [if_neg hl, ↓reduceIte]
    repeat' split
    all_goals rfl
/-! a step, steps -/
theorem m_step2 (h : HI n c k w l d f wm hr b ch) : ∀ (r j fu : Nat), j + r = c → r < fu → fX5_step_L2 fu (nI j) (eM n c k w (mx n d f wm b hr k l j) d f wm hr b ch sd P Q) = fX5_step_j38 (eM n c k w (mx n d f wm b hr k l c) d f wm hr b ch sd P Q) := by
  have hc := h.hc
  intro r
  induction r with
  | zero =>
    intro j fu e hf
    obtain rfl : j = c := by omega
    cases fu with
    | zero => omega
    | succ fu =>
      unfold fX5_step_L2
      simp only [f_n, f_motes, f_kind, f_own, f_cell, f_doors, f_ways, f_seed]
      rw [if_pos (nI_le (Nat.le_refl _) (by omega))]
  | succ r ih =>
    intro j fu e hf
    cases fu with
    | zero => omega
    | succ fu =>
      have hj : j < c := by omega
      have e1 : mx n d f wm b hr k l j j = l j := if_neg (Nat.lt_irrefl j)
      unfold fX5_step_L2
      simp only [f_n, f_motes, f_kind, f_own, f_cell, f_doors, f_ways, f_seed, u_gd (show j < 10 by omega) (show 10 < 2 ^ 31 by decide), u_ix (show j < 2 ^ 31 by omega)]
      rw [if_neg (nI_ge hj (by omega)), e1, m_goes h.hp (h.m hj).1 (h.m hj).2.2]
      simp only [Option.bind_some]
      rw [u_upd (l' := mx n d f wm b hr k l (j + 1)) (fun i hi => by
        unfold mx
        by_cases q : i < j
        · rw [if_pos q, if_pos (by omega)]
        · rw [if_neg q, if_neg (by omega)]) (if_pos (Nat.lt_succ_self j)), nI_1, fs_cell]
      exact ih (j + 1) fu (by omega) (by omega)
theorem m_ph (hh : hr ≤ 999) : fX5_step_j38 (eM n c k w l d f wm hr b ch sd P Q) = some (eM n c k w l d f wm (hrs hr 1) b ch sd P Q) := by
  unfold fX5_step_j38
  simp only [f_n, f_motes, f_kind, f_own, f_cell, f_doors, f_ways, f_seed, wy_g0, wy_g1, wy_g2, wy_g3, wy_g4, ix0, ix1, ix2, ix3, ix4, g05, g15, g25, g35, g45, Option.bind_some]
  unfold hrs
  rw [u_if (show (999 : Int32) ≤ nI hr ↔ 999 ≤ hr from nI_leI (a := 999) (b := hr) (by omega) (by omega))]
  by_cases h : 999 ≤ hr
  · have e : hr = 999 := by omega
    subst e
    rw [if_pos h]
    rfl
  · rw [if_neg h, nI_1, wy_s2, fs_ways]
    by_cases h2 : hr + 1 < 999
    · rw [if_pos h2]
    · have e : hr + 1 = 999 := by omega
      rw [if_neg h2, e]
theorem m_step {t : Nat} (h : HI n c k w l d f wm hr b ch) : fX5_step (eM n c k w (cl n c k l d f wm b hr t) d f wm (hrs hr t) b ch sd P Q) = some (eM n c k w (cl n c k l d f wm b hr (t + 1)) d f wm (hrs hr (t + 1)) b ch sd P Q) := by
  have hc := h.hc
  have q := m_step2 (sd := sd) (P := P) (Q := Q) (h.after (t := t)) c 0 FU (by omega) (by show c < 1100; omega)
  rw [mx_0, mx_cl] at q
  refine q.trans ?_
  rw [m_ph hrs_le, hrs_s]
theorem m_step0 (h : HI n c k w l d f wm hr b ch) : fX5_step (eM n c k w l d f wm hr b ch sd P Q) = some (eM n c k w (cl n c k l d f wm b hr 1) d f wm (hrs hr 1) b ch sd P Q) := by
  have q := m_step (t := 0) (sd := sd) (P := P) (Q := Q) h
  rw [cl_0, hrs_0 h.hp.2.2.2.2.1] at q
  exact q
theorem m_go6 {t : Nat} (h : HI n c k w l d f wm hr b ch) (ht : t ≤ 1000) : ∀ (r i fu : Nat), i + r = t → r < fu → fX5_goesOn_L6 (nI t) fu (nI i) (eM n c k w (cl n c k l d f wm b hr i) d f wm (hrs hr i) b ch sd P Q) = some (eM n c k w (cl n c k l d f wm b hr t) d f wm (hrs hr t) b ch sd P Q) := by
  intro r
  induction r with
  | zero =>
    intro i fu e hf
    obtain rfl : i = t := by omega
    cases fu with
    | zero => omega
    | succ fu =>
      unfold fX5_goesOn_L6
      rw [if_pos (nI_le (Nat.le_refl _) (by omega))]
  | succ r ih =>
    intro i fu e hf
    cases fu with
    | zero => omega
    | succ fu =>
      unfold fX5_goesOn_L6
      rw [if_neg (nI_ge (show i < t by omega) (by omega)), m_step h]
      simp only [Option.bind_some]
      rw [nI_1]
      exact ih (i + 1) fu (by omega) (by omega)
/-! begins, ends -/
abbrev Wa (Q : QT) (l : Nat → Nat) (hr : Nat) : Prop := (∀ i, i < 10 → q_was Q i = nI (l i)) ∧ q_wasHour Q = nI hr
theorem m_begins : ∃ Q' : QT, fX5_begins (eM n c k w l d f wm hr b ch sd P Q) = some (eM n c k w l d f wm hr b ch sd P Q') ∧ Wa Q' l hr := by
  have q : ∀ (r j fu : Nat) (Q : QT), j + r = 10 → r < fu → (∀ i, i < j → q_was Q i = nI (l i)) → ∃ Q' : QT, fX5_begins_L2 fu (nI j) (eM n c k w l d f wm hr b ch sd P Q) = some (eM n c k w l d f wm hr b ch sd P Q') ∧ Wa Q' l hr := by
    intro r
    induction r with
    | zero =>
      intro j fu Q e hf hw
      obtain rfl : j = 10 := by omega
      cases fu with
      | zero => omega
      | succ fu =>
        refine ⟨qs_wasHour Q (nI hr), ?_, hw, rfl⟩
        unfold fX5_begins_L2 fX5_begins_j26
        rw [if_pos (show (10 : Int32) ≤ nI 10 from nI_le (a := 10) (b := 10) (Nat.le_refl _) (by omega))]
        simp only [f_n, f_motes, f_kind, f_own, f_cell, f_doors, f_ways, f_seed, wy_g0, wy_g1, wy_g2, wy_g3, wy_g4, ix0, ix1, ix2, ix3, ix4, g05, g15, g25, g35, g45, Option.bind_some]
        rw [fs_wasHour]
    | succ r ih =>
      intro j fu Q e hf hw
      cases fu with
      | zero => omega
      | succ fu =>
        unfold fX5_begins_L2
        rw [if_neg (show ¬ (10 : Int32) ≤ nI j from nI_ge (a := j) (b := 10) (by omega) (by omega))]
        simp only [f_n, f_motes, f_kind, f_own, f_cell, f_doors, f_ways, f_seed, Option.bind_some, u_gd (show j < 10 by omega) (show 10 < 2 ^ 31 by decide), u_ix (show j < 2 ^ 31 by omega)]
        rw [fs_was, nI_1]
        exact ih (j + 1) fu _ (by omega) (by omega) (fun i hi => by
          show upd (m_was (eM n c k w l d f wm hr b ch sd P Q)) j (nI (l j)) i = _
          by_cases e : i = j
          · subst e
            rw [pk_us]
          · rw [pk_un e, f_was]
            exact hw i (by omega))
  exact q 10 0 FU Q (by omega) (by show 10 < 1100; omega) (fun i hi => by omega)
theorem m_ends {l0 : Nat → Nat} {hr0 : Nat} (hW : Wa Q l0 hr0) (hz : ∀ i, 10 ≤ i → l i = l0 i) : fX5_ends (eM n c k w l d f wm hr b ch sd P Q) = some (eM n c k w l0 d f wm hr0 b ch sd P Q) := by
  have q : ∀ (r j fu : Nat), j + r = 10 → r < fu → fX5_ends_L2 fu (nI j) (eM n c k w (fun i => if i < j then l0 i else l i) d f wm hr b ch sd P Q) = some (eM n c k w l0 d f wm hr0 b ch sd P Q) := by
    intro r
    induction r with
    | zero =>
      intro j fu e hf
      obtain rfl : j = 10 := by omega
      cases fu with
      | zero => omega
      | succ fu =>
        unfold fX5_ends_L2 fX5_ends_j26
        rw [if_pos (show (10 : Int32) ≤ nI 10 from nI_le (a := 10) (b := 10) (Nat.le_refl _) (by omega))]
        simp only [f_n, f_motes, f_kind, f_own, f_cell, f_doors, f_ways, f_seed, wy_g0, wy_g1, wy_g2, wy_g3, wy_g4, ix0, ix1, ix2, ix3, ix4, g05, g15, g25, g35, g45, Option.bind_some, f_wasHour]
        rw [hW.2, wy_s2, fs_ways]
        have e : (fun i => if i < 10 then l0 i else l i) = l0 := by
          funext i
          by_cases hi : i < 10
          · rw [if_pos hi]
          · rw [if_neg hi, hz i (by omega)]
        rw [e]
    | succ r ih =>
      intro j fu e hf
      cases fu with
      | zero => omega
      | succ fu =>
        unfold fX5_ends_L2
        rw [if_neg (show ¬ (10 : Int32) ≤ nI j from nI_ge (a := j) (b := 10) (by omega) (by omega))]
        simp only [f_n, f_motes, f_kind, f_own, f_cell, f_doors, f_ways, f_seed, f_was, Option.bind_some, u_gd (show j < 10 by omega) (show 10 < 2 ^ 31 by decide), u_ix (show j < 2 ^ 31 by omega)]
        rw [hW.1 j (by omega), u_upd (l' := fun i => if i < j + 1 then l0 i else l i) (fun i hi => by
          by_cases q : i < j
          · rw [if_pos q, if_pos (by omega)]
          · rw [if_neg q, if_neg (by omega)]) (if_pos (Nat.lt_succ_self j)), fs_cell, nI_1]
        exact ih (j + 1) fu (by omega) (by omega)
  have e : (fun i => if i < 0 then l0 i else l i) = l := funext fun i => if_neg (Nat.not_lt_zero i)
  have := q 10 0 FU (by omega) (by show 10 < 1100; omega)
  rw [e] at this
  exact this
theorem m_goesOn {t : Nat} (h : HI n c k w l d f wm hr b ch) (ht : t ≤ 1000) : ∃ Q' : QT, fX5_goesOn (nI t) (eM n c k w l d f wm hr b ch sd P Q) = some (eM n c k w (cl n c k l d f wm b hr t) d f wm (hrs hr t) b ch sd P Q') ∧ Wa Q' l hr := by
  obtain ⟨Q', e, hW⟩ := m_begins (n := n) (c := c) (k := k) (w := w) (l := l) (d := d) (f := f) (wm := wm) (hr := hr) (b := b) (ch := ch) (sd := sd) (P := P) (Q := Q)
  refine ⟨Q', ?_, hW⟩
  unfold fX5_goesOn
  rw [e]
  simp only [Option.bind_some]
  have q := m_go6 (sd := sd) (P := P) (Q := Q') h ht t 0 FU (by omega) (by show t < 1100; omega)
  rw [cl_0, hrs_0 h.hp.2.2.2.2.1] at q
  exact q
theorem cl_z {t : Nat} (h : HI n c k w l d f wm hr b ch) : ∀ i, 10 ≤ i → cl n c k l d f wm b hr t i = l i := fun i hi => if_neg (by have := h.hc; omega)
/-! sums -/
theorem m_aw (hc : c ≤ 10) : fX5_allWeight (eM n c k w l d f wm hr b ch sd P Q) = some (nI (sm w c)) := by
  have q : ∀ (r j fu : Nat), j + r = c → r < fu → fX5_allWeight_L4 (eM n c k w l d f wm hr b ch sd P Q) fu (nI (sm w j)) (nI j) = some (nI (sm w c)) := by
    intro r
    induction r with
    | zero =>
      intro j fu e hf
      obtain rfl : j = c := by omega
      cases fu with
      | zero => omega
      | succ fu =>
        unfold fX5_allWeight_L4
        simp only [f_n, f_motes, f_kind, f_own, f_cell, f_doors, f_ways, f_seed]
        rw [if_pos (nI_le (Nat.le_refl _) (by omega))]
    | succ r ih =>
      intro j fu e hf
      cases fu with
      | zero => omega
      | succ fu =>
        have hj : j < c := by omega
        unfold fX5_allWeight_L4
        simp only [f_n, f_motes, f_kind, f_own, f_cell, f_doors, f_ways, f_seed, u_gd (show j < 10 by omega) (show 10 < 2 ^ 31 by decide), u_ix (show j < 2 ^ 31 by omega)]
        rw [if_neg (nI_ge hj (by omega)), nI_add, nI_1]
        exact ih (j + 1) fu (by omega) (by omega)
  exact q c 0 FU (by omega) (by show c < 1100; omega)
theorem m_vn (h : HI n c k w l d f wm hr b ch) : fX5_votesNow (eM n c k w l d f wm hr b ch sd P Q) = some (nI (lw n b hr c w l)) := by
  have hc := h.hc
  have q : ∀ (r j fu : Nat), j + r = c → r < fu → fX5_votesNow_L4 (eM n c k w l d f wm hr b ch sd P Q) fu (nI (lw n b hr j w l)) (nI j) = some (nI (lw n b hr c w l)) := by
    intro r
    induction r with
    | zero =>
      intro j fu e hf
      obtain rfl : j = c := by omega
      cases fu with
      | zero => omega
      | succ fu =>
        unfold fX5_votesNow_L4
        simp only [f_n, f_motes, f_kind, f_own, f_cell, f_doors, f_ways, f_seed]
        rw [if_pos (nI_le (Nat.le_refl _) (by omega))]
    | succ r ih =>
      intro j fu e hf
      cases fu with
      | zero => omega
      | succ fu =>
        have hj : j < c := by omega
        have ih' := ih (j + 1) fu (by omega) (by omega)
        unfold fX5_votesNow_L4 fX5_votesNow_j40
        simp only [f_n, f_motes, f_kind, f_own, f_cell, f_doors, f_ways, f_seed, wy_g0, wy_g1, wy_g2, wy_g3, wy_g4, ix0, ix1, ix2, ix3, ix4, g05, g15, g25, g35, g45, u_gd (show j < 10 by omega) (show 10 < 2 ^ 31 by decide), u_ix (show j < 2 ^ 31 by omega)]
        rw [if_neg (nI_ge hj (by omega)), mlit h.hp (h.m hj).2.2]
        simp only [Option.bind_some]
        unfold lw at ih' ⊢
        rw [sm] at ih'
        by_cases hl : lit n b hr (l j)
        · rw [if_pos hl] at ih' ⊢
          rw [if_neg (by decide), nI_add, nI_1]
          exact ih'
        · rw [if_neg hl] at ih' ⊢
          rw [if_pos rfl, nI_1]
          exact ih'
  exact q c 0 FU (by omega) (by show c < 1100; omega)
theorem m_ln (h : HI n c k w l d f wm hr b ch) : fX5_litNow (eM n c k w l d f wm hr b ch sd P Q) = some (nI (lc n b hr c l)) := by
  have hc := h.hc
  have q : ∀ (r j fu : Nat), j + r = c → r < fu → fX5_litNow_L4 (eM n c k w l d f wm hr b ch sd P Q) fu (nI (lc n b hr j l)) (nI j) = some (nI (lc n b hr c l)) := by
    intro r
    induction r with
    | zero =>
      intro j fu e hf
      obtain rfl : j = c := by omega
      cases fu with
      | zero => omega
      | succ fu =>
        unfold fX5_litNow_L4
        simp only [f_n, f_motes, f_kind, f_own, f_cell, f_doors, f_ways, f_seed]
        rw [if_pos (nI_le (Nat.le_refl _) (by omega))]
    | succ r ih =>
      intro j fu e hf
      cases fu with
      | zero => omega
      | succ fu =>
        have hj : j < c := by omega
        have ih' := ih (j + 1) fu (by omega) (by omega)
        unfold fX5_litNow_L4 fX5_litNow_j34
        simp only [f_n, f_motes, f_kind, f_own, f_cell, f_doors, f_ways, f_seed, wy_g0, wy_g1, wy_g2, wy_g3, wy_g4, ix0, ix1, ix2, ix3, ix4, g05, g15, g25, g35, g45, u_gd (show j < 10 by omega) (show 10 < 2 ^ 31 by decide), u_ix (show j < 2 ^ 31 by omega)]
        rw [if_neg (nI_ge hj (by omega)), mlit h.hp (h.m hj).2.2]
        simp only [Option.bind_some]
        unfold lc at ih' ⊢
        rw [sm] at ih'
        by_cases hl : lit n b hr (l j)
        · rw [if_pos hl] at ih' ⊢
          rw [if_neg (by decide), nI_1, nI_1]
          exact ih'
        · rw [if_neg hl] at ih' ⊢
          rw [if_pos rfl, nI_1]
          exact ih'
  exact q c 0 FU (by omega) (by show c < 1100; omega)
theorem m_cr {x : Nat} (h : HI n c k w l d f wm hr b ch) (hx : x < 100) : fX5_crowdIn (nI x) (eM n c k w l d f wm hr b ch sd P Q) = some (nI (cin c l x)) := by
  have hc := h.hc
  have q : ∀ (r j fu : Nat), j + r = c → r < fu → fX5_crowdIn_L4 (nI x) (eM n c k w l d f wm hr b ch sd P Q) fu (nI (cin j l x)) (nI j) = some (nI (cin c l x)) := by
    intro r
    induction r with
    | zero =>
      intro j fu e hf
      obtain rfl : j = c := by omega
      cases fu with
      | zero => omega
      | succ fu =>
        unfold fX5_crowdIn_L4
        simp only [f_n, f_motes, f_kind, f_own, f_cell, f_doors, f_ways, f_seed]
        rw [if_pos (nI_le (Nat.le_refl _) (by omega))]
    | succ r ih =>
      intro j fu e hf
      cases fu with
      | zero => omega
      | succ fu =>
        have hj : j < c := by omega
        have ih' := ih (j + 1) fu (by omega) (by omega)
        have h67 := isC_lt h.hp.1.2 (h.m hj).2.2
        unfold fX5_crowdIn_L4 fX5_crowdIn_j25
        simp only [f_n, f_motes, f_kind, f_own, f_cell, f_doors, f_ways, f_seed, u_gd (show j < 10 by omega) (show 10 < 2 ^ 31 by decide), u_ix (show j < 2 ^ 31 by omega)]
        rw [if_neg (nI_ge hj (by omega)), u_if (nI_eq (a := l j) (b := x) (by omega) (by omega))]
        unfold cin at ih' ⊢
        rw [sm] at ih'
        by_cases hl : l j = x
        · rw [if_pos hl] at ih' ⊢
          rw [nI_1, nI_1]
          exact ih'
        · rw [if_neg hl] at ih' ⊢
          rw [nI_1]
          exact ih'
  exact q c 0 FU (by omega) (by show c < 1100; omega)
theorem m_dc (h : HI n c k w l d f wm hr b ch) : fX5_doesCarry (eM n c k w l d f wm hr b ch sd P Q) = some (if sm w c < 2 * lw n b hr c w l then (1 : Int32) else 0) := by
  have h1 := lw_le h (hr' := hr) (b' := b) (l' := l)
  have h2 := wia_le h
  unfold fX5_doesCarry
  rw [m_vn h, m_aw h.hc]
  simp only [Option.bind_some]
  rw [show (2 : Int32) * nI (lw n b hr c w l) = nI (2 * lw n b hr c w l) from pk_mul 2 _, u_if (nI_leI (a := 2 * lw n b hr c w l) (b := sm w c) (by omega) (by omega))]
  by_cases q : sm w c < 2 * lw n b hr c w l
  · rw [if_pos q, if_neg (by omega)]
  · rw [if_neg q, if_pos (by omega)]
/-- votes behind t steps -/
abbrev vb (n c : Nat) (k w l : Nat → Nat) (d f wm hr b t : Nat) : Nat := lw n b (hrs hr t) c w (cl n c k l d f wm b hr t)
theorem m_vb {t : Nat} (h : HI n c k w l d f wm hr b ch) (ht : t ≤ 1000) : ∃ Q' : QT, fX5_votesBehind (nI t) (eM n c k w l d f wm hr b ch sd P Q) = some (nI (vb n c k w l d f wm hr b t), eM n c k w l d f wm hr b ch sd P Q') := by
  obtain ⟨Q', e, hW⟩ := m_goesOn (sd := sd) (P := P) (Q := Q) h ht
  refine ⟨Q', ?_⟩
  unfold fX5_votesBehind
  rw [e]
  simp only [Option.bind_some]
  rw [m_vn h.after, m_ends hW (cl_z h)]
  rfl
theorem m_cb {t : Nat} (h : HI n c k w l d f wm hr b ch) (ht : t ≤ 1000) : ∃ Q' : QT, fX5_carriesBehind (nI t) (eM n c k w l d f wm hr b ch sd P Q) = some (if sm w c < 2 * vb n c k w l d f wm hr b t then (1 : Int32) else 0, eM n c k w l d f wm hr b ch sd P Q') := by
  obtain ⟨Q', e⟩ := m_vb (sd := sd) (P := P) (Q := Q) h ht
  have h1 : vb n c k w l d f wm hr b t ≤ 90 := lw_le h
  have h2 := wia_le h
  refine ⟨Q', ?_⟩
  unfold fX5_carriesBehind
  rw [e]
  simp only [Option.bind_some]
  rw [m_aw h.hc]
  simp only [Option.bind_some]
  rw [show (2 : Int32) * nI (vb n c k w l d f wm hr b t) = nI (2 * vb n c k w l d f wm hr b t) from pk_mul 2 _, u_if (nI_leI (a := 2 * vb n c k w l d f wm hr b t) (b := sm w c) (by omega) (by omega))]
  by_cases q : sm w c < 2 * vb n c k w l d f wm hr b t
  · rw [if_pos q, if_neg (by omega)]
  · rw [if_neg q, if_pos (by omega)]
end M1
