/-! ===== pure layer: numbers ===== -/
theorem u_inb {a N : Nat} (h : a < N) (hN : N < 2 ^ 31) : inb (nI a) N = true := by
  unfold inb
  rw [decide_eq_false (nI_pos (by omega)), nI_clamp (by omega), decide_eq_false (by omega)]
  rfl
theorem u_gd {α : Type} {a N : Nat} {o : Option α} (h : a < N) (hN : N < 2 ^ 31) : gd (inb (nI a) N) o = o := by
  rw [u_inb h hN]
  rfl
theorem u_ix {a : Nat} (h : a < 2 ^ 31) : ix (nI a) = a := nI_clamp h
theorem u_irm {a d : Nat} (ha : a < 2 ^ 31) (h0 : 0 < d) (hd : d < 2 ^ 31) : irm (nI a) (nI d) = nI (a % d) := pk_rem ha h0 hd
theorem u_irm10 {a : Nat} (ha : a < 2 ^ 31) : irm (nI a) (10 : Int32) = nI (a % 10) := pk_rem (d := 10) ha (by omega) (by omega)
theorem u_div10 {a : Nat} (ha : a < 2 ^ 31) : nI a / (10 : Int32) = nI (a / 10) := pk_div (d := 10) ha (by omega) (by omega)
theorem u_upd {l l' : Nat → Nat} {j v : Nat} (h : ∀ i, i ≠ j → l' i = l i) (h2 : l' j = v) : upd (fun i => nI (l i)) j (nI v) = fun i => nI (l' i) := by
  funext i
  by_cases e : i = j
  · subst e
    rw [pk_us, h2]
  · rw [pk_un e, h i e]
theorem u_if {α : Type} {p q : Prop} [Decidable p] [Decidable q] {x y : α} (h : p ↔ q) : (if p then x else y) = if q then x else y := by
  by_cases hq : q
  · rw [if_pos hq, if_pos (h.mpr hq)]
  · rw [if_neg hq, if_neg (fun e => hq (h.mp e))]
def sm (f : Nat → Nat) : Nat → Nat
  | 0 => 0
  | n + 1 => sm f n + f n
theorem sm_cong {f g : Nat → Nat} : ∀ {n : Nat}, (∀ i, i < n → f i = g i) → sm f n = sm g n
  | 0, _ => rfl
  | n + 1, h => by rw [sm, sm, sm_cong (fun i hi => h i (by omega)), h n (by omega)]
theorem sm_le {f : Nat → Nat} {m : Nat} : ∀ {n : Nat}, (∀ i, i < n → f i ≤ m) → sm f n ≤ n * m
  | 0, _ => Nat.zero_le _
  | n + 1, h => by
    have h1 := sm_le (f := f) (m := m) (n := n) (fun i hi => h i (by omega))
    have h2 := h n (by omega)
    rw [sm, Nat.succ_mul]
    omega
theorem one0 : ¬ (1 : Int32) = 0 := by decide
/-! the spec of a hall: Nat data -/
def eH (n c : Nat) (k w l : Nat → Nat) (d f wm hr b ch : Nat) (sd : Int32) : HallT := (nI n, nI c, fun i => nI (k i), fun i => nI (w i), fun i => nI (l i), nI d, nI f, nI wm, nI hr, nI b, nI ch, sd)
section E0
variable {n c : Nat} {k w l : Nat → Nat} {d f wm hr b ch : Nat} {sd : Int32}
theorem e_side : h_side (eH n c k w l d f wm hr b ch sd) = nI n := id rfl
theorem e_count : h_count (eH n c k w l d f wm hr b ch sd) = nI c := id rfl
theorem e_kind : h_kindOf (eH n c k w l d f wm hr b ch sd) = fun i => nI (k i) := id rfl
theorem e_weight : h_weightOf (eH n c k w l d f wm hr b ch sd) = fun i => nI (w i) := id rfl
theorem e_cell : h_cellOf (eH n c k w l d f wm hr b ch sd) = fun i => nI (l i) := id rfl
theorem e_doors : h_doors (eH n c k w l d f wm hr b ch sd) = nI d := id rfl
theorem e_fan : h_fan (eH n c k w l d f wm hr b ch sd) = nI f := id rfl
theorem e_warm : h_warmth (eH n c k w l d f wm hr b ch sd) = nI wm := id rfl
theorem e_hour : h_hour (eH n c k w l d f wm hr b ch sd) = nI hr := id rfl
theorem e_beam : h_beam (eH n c k w l d f wm hr b ch sd) = nI b := id rfl
theorem e_chance : h_chance (eH n c k w l d f wm hr b ch sd) = nI ch := id rfl
theorem e_seed : h_seed (eH n c k w l d f wm hr b ch sd) = sd := id rfl
end E0
abbrev isC (n x : Nat) : Prop := x / 10 < n ∧ x % 10 < n
abbrev lit (n b hr x : Nat) : Prop := x % 10 = (hr + b + x / 10) % n
def bd (n d x : Nat) : Nat :=
  10 * (if d / 4 % 2 = 1 ∧ 0 < (if d % 2 = 1 ∧ x / 10 + 1 < n then x / 10 + 1 else x / 10) then (if d % 2 = 1 ∧ x / 10 + 1 < n then x / 10 + 1 else x / 10) - 1 else (if d % 2 = 1 ∧ x / 10 + 1 < n then x / 10 + 1 else x / 10)) + (if d / 8 % 2 = 1 ∧ (if d / 2 % 2 = 1 ∧ 0 < x % 10 then x % 10 - 1 else x % 10) + 1 < n then (if d / 2 % 2 = 1 ∧ 0 < x % 10 then x % 10 - 1 else x % 10) + 1 else (if d / 2 % 2 = 1 ∧ 0 < x % 10 then x % 10 - 1 else x % 10))
def bf (n f x : Nat) : Nat := if f = 1 then (if 0 < x / 10 then x - 10 else x) else if f = 2 then (if x % 10 + 1 < n then x + 1 else x) else if f = 3 then (if x / 10 + 1 < n then x + 10 else x) else if f = 4 then (if 0 < x % 10 then x - 1 else x) else x
def up (x : Nat) : Nat := if 0 < x / 10 then x - 10 else x
def low (n x : Nat) : Nat := if x / 10 + 1 < n then x + 10 else x
def tb (q x : Nat) : Nat := if q < x % 10 then x - 1 else if x % 10 < q then x + 1 else x
def nm (n d f wm hr x : Nat) : Nat := if 5 ≤ wm ∧ hr % 2 = 0 then up (bf n f (bd n d x)) else bf n f (bd n d x)
def nh (n d f hr x : Nat) : Nat := if hr % 2 = 1 then bf n f (bd n d x) else x
def nxt (n d f wm b hr kk x : Nat) : Nat :=
  if kk = 1 then nh n d f hr x else if kk = 2 then (if lit n b hr x then x else nm n d f wm hr x) else if kk = 3 then low n (nh n d f hr x) else if kk = 4 then (if lit n b hr x then x else tb ((hr + b + nm n d f wm hr x / 10) % n) (nm n d f wm hr x)) else if kk = 5 then bd n d x else nm n d f wm hr x
def hrs (hr t : Nat) : Nat := if hr + t < 999 then hr + t else 999
def wk (n d f wm b hr kk x : Nat) : Nat → Nat
  | 0 => x
  | t + 1 => nxt n d f wm b (hrs hr t) kk (wk n d f wm b hr kk x t)
/-- cells behind t steps -/
def cl (n c : Nat) (k l : Nat → Nat) (d f wm b hr t : Nat) : Nat → Nat := fun i => if i < c then wk n d f wm b hr (k i) (l i) t else l i
/-- the hall's invariant -/
def HI (n c : Nat) (k w l : Nat → Nat) (d f wm hr b ch : Nat) : Prop := (6 ≤ n ∧ n ≤ 7) ∧ c ≤ 10 ∧ (∀ i, i < c → k i ≤ 5 ∧ w i ≤ 9 ∧ isC n (l i)) ∧ d < 16 ∧ f ≤ 4 ∧ wm ≤ 9 ∧ hr ≤ 999 ∧ b ≤ 6 ∧ ch ≤ 12 ∧ ∀ i, 10 ≤ i → k i = 0 ∧ w i = 0 ∧ l i = 0
theorem isC_lt {n x : Nat} (hn : n ≤ 7) (h : isC n x) : x < 67 := by
  obtain ⟨h1, h2⟩ := h
  omega
theorem isC_eq (x : Nat) : 10 * (x / 10) + x % 10 = x := by omega
/-! doors and fan, by trying all -/
def hC (n d f : Nat) : HallT := eH n 0 (fun _ => 0) (fun _ => 0) (fun _ => 0) d f 0 0 0 0 0
theorem t_bd0 : ∀ e, e < 2 → ∀ d, d < 16 → ∀ r, r < 6 + e → ∀ q, q < 6 + e → (fX1_pushedByDoors (nI (10 * r + q)) (hC (6 + e) d 0) = some (nI (bd (6 + e) d (10 * r + q))) ∧ (bd (6 + e) d (10 * r + q) / 10 < 6 + e ∧ bd (6 + e) d (10 * r + q) % 10 < 6 + e)) := by decide +kernel
theorem t_bd (n : Nat) (h8 : n < 8) (h6 : 6 ≤ n) (d : Nat) (hd : d < 16) (r : Nat) (hr : r < n) (q : Nat) (hq : q < n) : fX1_pushedByDoors (nI (10 * r + q)) (hC n d 0) = some (nI (bd n d (10 * r + q))) ∧ isC n (bd n d (10 * r + q)) := by
  have e : 6 + (n - 6) = n := by omega
  have := t_bd0 (n - 6) (by omega) d hd r (by omega) q (by omega)
  rw [e] at this
  exact this
theorem t_bf0 : ∀ e, e < 2 → ∀ f, f < 5 → ∀ r, r < 6 + e → ∀ q, q < 6 + e → (fX1_pushedByFan (nI (10 * r + q)) (hC (6 + e) 0 f) = some (nI (bf (6 + e) f (10 * r + q))) ∧ (bf (6 + e) f (10 * r + q) / 10 < 6 + e ∧ bf (6 + e) f (10 * r + q) % 10 < 6 + e)) := by decide +kernel
theorem t_bf (n : Nat) (h8 : n < 8) (h6 : 6 ≤ n) (f : Nat) (hf : f < 5) (r : Nat) (hr : r < n) (q : Nat) (hq : q < n) : fX1_pushedByFan (nI (10 * r + q)) (hC n 0 f) = some (nI (bf n f (10 * r + q))) ∧ isC n (bf n f (10 * r + q)) := by
  have e : 6 + (n - 6) = n := by omega
  have := t_bf0 (n - 6) (by omega) f hf r (by omega) q (by omega)
  rw [e] at this
  exact this
section X0
variable {n c : Nat} {k w l : Nat → Nat} {d f wm hr b ch : Nat} {sd : Int32}
theorem bd_C {x : Nat} (hn : 6 ≤ n) (hn' : n ≤ 7) (hd : d < 16) (hx : isC n x) : isC n (bd n d x) := by
  have := (t_bd n (by omega) hn d hd _ hx.1 _ hx.2).2
  rwa [isC_eq] at this
theorem bf_C {x : Nat} (hn : 6 ≤ n) (hn' : n ≤ 7) (hf : f ≤ 4) (hx : isC n x) : isC n (bf n f x) := by
  have := (t_bf n (by omega) hn f (by omega) _ hx.1 _ hx.2).2
  rwa [isC_eq] at this
theorem x_bd {x : Nat} (hn : 6 ≤ n) (hn' : n ≤ 7) (hd : d < 16) (hx : isC n x) : fX1_pushedByDoors (nI x) (eH n c k w l d f wm hr b ch sd) = some (nI (bd n d x)) := by
  have := (t_bd n (by omega) hn d hd _ hx.1 _ hx.2).1
  rw [isC_eq] at this
  rw [← this]
  rfl
theorem x_bf {x : Nat} (hn : 6 ≤ n) (hn' : n ≤ 7) (hf : f ≤ 4) (hx : isC n x) : fX1_pushedByFan (nI x) (eH n c k w l d f wm hr b ch sd) = some (nI (bf n f x)) := by
  have := (t_bf n (by omega) hn f (by omega) _ hx.1 _ hx.2).1
  rw [isC_eq] at this
  rw [← this]
  rfl
theorem up_C {x : Nat} (hx : isC n x) : isC n (up x) := by
  unfold up
  obtain ⟨h1, h2⟩ := hx
  split <;> constructor <;> omega
theorem low_C {x : Nat} (hx : isC n x) : isC n (low n x) := by
  unfold low
  obtain ⟨h1, h2⟩ := hx
  split <;> constructor <;> omega
theorem tb_C {x q : Nat} (hn' : n ≤ 7) (hx : isC n x) (hq : q < n) : isC n (tb q x) := by
  unfold tb
  obtain ⟨h1, h2⟩ := hx
  split
  · constructor <;> omega
  · split <;> constructor <;> omega
theorem nm_C {x : Nat} (hn : 6 ≤ n) (hn' : n ≤ 7) (hd : d < 16) (hf : f ≤ 4) (hx : isC n x) : isC n (nm n d f wm hr x) := by
  unfold nm
  have := bf_C hn hn' hf (bd_C hn hn' hd hx)
  split
  · exact up_C this
  · exact this
theorem nh_C {x : Nat} (hn : 6 ≤ n) (hn' : n ≤ 7) (hd : d < 16) (hf : f ≤ 4) (hx : isC n x) : isC n (nh n d f hr x) := by
  unfold nh
  have := bf_C hn hn' hf (bd_C hn hn' hd hx)
  split
  · exact this
  · exact hx
theorem nxt_C {x kk : Nat} (hn : 6 ≤ n) (hn' : n ≤ 7) (hd : d < 16) (hf : f ≤ 4) (hx : isC n x) : isC n (nxt n d f wm b hr kk x) := by
  have h1 := nm_C (wm := wm) (hr := hr) hn hn' hd hf hx
  have h2 := nh_C (hr := hr) hn hn' hd hf hx
  unfold nxt
  split
  · exact h2
  split
  · split
    · exact hx
    · exact h1
  split
  · exact low_C h2
  split
  · split
    · exact hx
    · exact tb_C hn' h1 (Nat.mod_lt _ (by omega))
  split
  · exact bd_C hn hn' hd hx
  · exact h1
theorem wk_C {x kk t : Nat} (hn : 6 ≤ n) (hn' : n ≤ 7) (hd : d < 16) (hf : f ≤ 4) (hx : isC n x) : isC n (wk n d f wm b hr kk x t) := by
  induction t with
  | zero => exact hx
  | succ t ih => exact nxt_C hn hn' hd hf ih
theorem hrs_le {t : Nat} : hrs hr t ≤ 999 := by
  unfold hrs
  split <;> omega
theorem hrs_0 (h : hr ≤ 999) : hrs hr 0 = hr := by
  unfold hrs
  split <;> omega
theorem hrs_s {t : Nat} : hrs (hrs hr t) 1 = hrs hr (t + 1) := by
  unfold hrs
  split <;> split <;> (try split) <;> omega
theorem x_bc {x : Nat} (hn : 6 ≤ n) (hn' : n ≤ 7) (hh : hr ≤ 999) (hb : b ≤ 6) (hx : x < 100) : fX1_beamColumn (nI x) (eH n c k w l d f wm hr b ch sd) = some (nI ((hr + b + x) % n)) := by
  unfold fX1_beamColumn
  simp only [e_side, e_count, e_kind, e_weight, e_cell, e_doors, e_fan, e_warm, e_hour, e_beam, e_chance, e_seed]
  rw [if_neg (nI_nle (by omega) (by omega)), if_neg (nI_ne0 (by omega) (by omega)), nI_add, nI_add, u_irm (by omega) (by omega) (by omega)]
theorem x_lit {x : Nat} (hn : 6 ≤ n) (hn' : n ≤ 7) (hh : hr ≤ 999) (hb : b ≤ 6) (hx : x < 100) : fX1_isLit (nI x) (eH n c k w l d f wm hr b ch sd) = some (if lit n b hr x then (1 : Int32) else 0) := by
  unfold fX1_isLit
  rw [u_div10 (by omega), x_bc hn hn' hh hb (by omega), u_irm10 (by omega)]
  have hlt : (hr + b + x / 10) % n < n := Nat.mod_lt _ (by omega)
  show (if nI (x % 10) = nI ((hr + b + x / 10) % n) then some (1 : Int32) else some 0) = _
  rw [u_if (nI_eq (a := x % 10) (b := (hr + b + x / 10) % n) (by omega) (by omega))]
  by_cases h : x % 10 = (hr + b + x / 10) % n
  · rw [if_pos h, if_pos h]
  · rw [if_neg h, if_neg h]
theorem and1 : ∀ h, h < 1000 → ((nI h &&& (1 : Int32)) = (1 : Int32) ↔ h % 2 = 1) ∧ ((nI h &&& (1 : Int32)) = 0 ↔ h % 2 = 0) ∧ (irm (nI h) (2 : Int32) = (1 : Int32) ↔ h % 2 = 1) ∧ (irm (nI h) (2 : Int32) = 0 ↔ h % 2 = 0) := by decide +kernel
theorem x_nh {x : Nat} (hn : 6 ≤ n) (hn' : n ≤ 7) (hd : d < 16) (hf : f ≤ 4) (hh : hr ≤ 999) (hx : isC n x) : fX1_nextOfHeavy (nI x) (eH n c k w l d f wm hr b ch sd) = some (nI (nh n d f hr x)) := by
  unfold fX1_nextOfHeavy nh
  simp only [e_side, e_count, e_kind, e_weight, e_cell, e_doors, e_fan, e_warm, e_hour, e_beam, e_chance, e_seed]
  rw [u_if (and1 hr (by omega)).1, x_bd hn hn' hd hx]
  simp only [Option.bind_some]
  rw [x_bf hn hn' hf (bd_C hn hn' hd hx)]
  split <;> rfl
theorem x_up {x : Nat} (hx : x < 100) : (if nI x / (10 : Int32) ≤ 0 then some (nI x) else some (nI x - (10 : Int32))) = some (nI (up x)) := by
  unfold up
  rw [u_div10 (by omega)]
  by_cases h : 0 < x / 10
  · rw [if_neg (nI_nle h (by omega)), if_pos h]
    exact congrArg some (pk_sub (a := x) (b := 10) (by omega))
  · have e : x / 10 = 0 := by omega
    rw [if_neg h, e, if_pos (by decide)]
theorem x_nm {x : Nat} (hn : 6 ≤ n) (hn' : n ≤ 7) (hd : d < 16) (hf : f ≤ 4) (hh : hr ≤ 999) (hw : wm ≤ 9) (hx : isC n x) : fX1_nextOfMote (nI x) (eH n c k w l d f wm hr b ch sd) = some (nI (nm n d f wm hr x)) := by
  have hC := bf_C hn hn' hf (bd_C hn hn' hd hx)
  have h67 := isC_lt hn' hC
  unfold fX1_nextOfMote nm fX1_nextOfMote_j31 fX1_nextOfMote_j32
  rw [x_bd hn hn' hd hx]
  simp only [Option.bind_some]
  rw [x_bf hn hn' hf (bd_C hn hn' hd hx)]
  simp only [Option.bind_some, e_side, e_count, e_kind, e_weight, e_cell, e_doors, e_fan, e_warm, e_hour, e_beam, e_chance, e_seed]
  rw [u_if (show nI wm < (5 : Int32) ↔ wm < 5 from nI_ltI (a := wm) (b := 5) (by omega) (by omega)), u_if (and1 hr (by omega)).2.1, x_up (by omega)]
  by_cases h : wm < 5
  · have h5 : ¬ (5 ≤ wm ∧ hr % 2 = 0) := by omega
    simp only [if_pos h, if_neg h5, ↓reduceIte]
  · by_cases h2 : hr % 2 = 0
    · have h5 : 5 ≤ wm ∧ hr % 2 = 0 := ⟨by omega, h2⟩
      simp only [if_neg h, if_pos h2, if_pos h5, one0, ↓reduceIte]
    · have h5 : ¬ (5 ≤ wm ∧ hr % 2 = 0) := fun e => h2 e.2
      simp only [if_neg h, if_neg h2, if_neg h5, ↓reduceIte]
theorem x_low {x : Nat} (hn : 6 ≤ n) (hn7 : n ≤ 7) (hx : x < 100) : fX1_lowered (nI x) (eH n c k w l d f wm hr b ch sd) = some (nI (low n x)) := by
  unfold fX1_lowered low
  simp only [e_side, e_count, e_kind, e_weight, e_cell, e_doors, e_fan, e_warm, e_hour, e_beam, e_chance, e_seed]
  rw [u_div10 (by omega), show nI n - (1 : Int32) = nI (n - 1) from pk_sub (a := n) (b := 1) (by omega)]
  by_cases h : x / 10 + 1 < n
  · rw [if_neg (nI_ge (by omega) (by omega)), if_pos h]
    exact congrArg some (nI_add x 10)
  · rw [if_pos (nI_le (by omega) (by omega)), if_neg h]
theorem x_tb {x : Nat} (hn : 6 ≤ n) (hn' : n ≤ 7) (hh : hr ≤ 999) (hb : b ≤ 6) (hx : x < 100) : fX1_towardsBeam (nI x) (eH n c k w l d f wm hr b ch sd) = some (nI (tb ((hr + b + x / 10) % n) x)) := by
  unfold fX1_towardsBeam tb
  have hlt : (hr + b + x / 10) % n < n := Nat.mod_lt _ (by omega)
  rw [u_div10 (by omega), x_bc hn hn' hh hb (by omega), u_irm10 (by omega)]
  simp only [Option.bind_some]
  generalize (hr + b + x / 10) % n = q at hlt
  unfold fJ6_compare_7cf53
  by_cases h : q < x % 10
  · rw [if_neg (nI_ge h (by omega)), if_pos h]
    show some (nI x + cI (-1)) = _
    exact congrArg some (show nI x + (-1) = nI (x - 1) by
      have := pk_m1 (x - 1)
      rwa [show x - 1 + 1 = x by omega] at this)
  · rw [if_pos (nI_le (by omega) (by omega)), if_neg h]
    by_cases h2 : x % 10 < q
    · rw [if_neg (fun e => by have := (nI_eq (by omega) (by omega)).mp e; omega), if_pos h2]
      exact congrArg some (nI_1 x)
    · have e : q = x % 10 := by omega
      rw [if_pos (by rw [e]), if_neg h2]
      exact congrArg some (nI_add x 0)
theorem x_nxt {x kk : Nat} (hn : 6 ≤ n) (hn' : n ≤ 7) (hd : d < 16) (hf : f ≤ 4) (hh : hr ≤ 999) (hw : wm ≤ 9) (hb : b ≤ 6) (hk : kk ≤ 5) (hx : isC n x) : fX1_next (nI kk) (nI x) (eH n c k w l d f wm hr b ch sd) = some (nI (nxt n d f wm b hr kk x)) := by
  have h67 := isC_lt hn' hx
  have hm := isC_lt hn' (nm_C (wm := wm) (hr := hr) hn hn' hd hf hx)
  have hv := isC_lt hn' (nh_C (hr := hr) hn hn' hd hf hx)
  unfold fX1_next nxt
  rw [u_if (show nI kk = (1 : Int32) ↔ kk = 1 from nI_eq (a := kk) (b := 1) (by omega) (by omega)), u_if (show nI kk = (2 : Int32) ↔ kk = 2 from nI_eq (a := kk) (b := 2) (by omega) (by omega)), u_if (show nI kk = (3 : Int32) ↔ kk = 3 from nI_eq (a := kk) (b := 3) (by omega) (by omega)), u_if (show nI kk = (4 : Int32) ↔ kk = 4 from nI_eq (a := kk) (b := 4) (by omega) (by omega)), u_if (show nI kk = (5 : Int32) ↔ kk = 5 from nI_eq (a := kk) (b := 5) (by omega) (by omega))]
  rw [x_nh hn hn' hd hf hh hx, x_nm hn hn' hd hf hh hw hx, x_lit hn hn' hh hb (by omega), x_bd hn hn' hd hx]
  simp only [Option.bind_some]
  rw [x_low hn hn' (by omega), x_tb hn hn' hh hb (by omega)]
  simp only [Option.bind_some]
  by_cases hl : lit n b hr x
  · simp only [if_pos hl, one0, ↓reduceIte]
    repeat' split
    all_goals rfl
  · simp only [if_neg hl, ↓reduceIte]
    repeat' split
    all_goals rfl
end X0
