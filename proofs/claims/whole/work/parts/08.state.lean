/-! ===== the state of each thing, and its cells (written by wip/gen/kinds.py) ===== -/
def iA (G : GG) (n : Nat) (f : Nat → Int32) : va_E := .inl (G.cA 0, n, .inl f)
def lA (G : GG) (n : Nat) (f : Nat → Int64) : va_E := .inl (G.cA 1, n, .inr (.inl f))
def rA (c : ClassId) (n : Nat) (f : Nat → Option Nat) : va_E := .inl (c, n, .inr (.inr (.inr (.inr f))))
abbrev HallT : Type := Int32 × Int32 × (Nat → Int32) × (Nat → Int32) × (Nat → Int32) × Int32 × Int32 × Int32 × Int32 × Int32 × Int32 × Int32
def h_side (S : HallT) : Int32 := S.1
def h_count (S : HallT) : Int32 := S.2.1
def h_kindOf (S : HallT) : (Nat → Int32) := S.2.2.1
def h_weightOf (S : HallT) : (Nat → Int32) := S.2.2.2.1
def h_cellOf (S : HallT) : (Nat → Int32) := S.2.2.2.2.1
def h_doors (S : HallT) : Int32 := S.2.2.2.2.2.1
def h_fan (S : HallT) : Int32 := S.2.2.2.2.2.2.1
def h_warmth (S : HallT) : Int32 := S.2.2.2.2.2.2.2.1
def h_hour (S : HallT) : Int32 := S.2.2.2.2.2.2.2.2.1
def h_beam (S : HallT) : Int32 := S.2.2.2.2.2.2.2.2.2.1
def h_chance (S : HallT) : Int32 := S.2.2.2.2.2.2.2.2.2.2.1
def h_seed (S : HallT) : Int32 := S.2.2.2.2.2.2.2.2.2.2.2
def hs_side (S : HallT) (v : Int32) : HallT := (v, S.2)
def hs_count (S : HallT) (v : Int32) : HallT := (S.1, v, S.2.2)
def hs_kindOf (S : HallT) (v : (Nat → Int32)) : HallT := (S.1, S.2.1, v, S.2.2.2)
def hs_weightOf (S : HallT) (v : (Nat → Int32)) : HallT := (S.1, S.2.1, S.2.2.1, v, S.2.2.2.2)
def hs_cellOf (S : HallT) (v : (Nat → Int32)) : HallT := (S.1, S.2.1, S.2.2.1, S.2.2.2.1, v, S.2.2.2.2.2)
def hs_doors (S : HallT) (v : Int32) : HallT := (S.1, S.2.1, S.2.2.1, S.2.2.2.1, S.2.2.2.2.1, v, S.2.2.2.2.2.2)
def hs_fan (S : HallT) (v : Int32) : HallT := (S.1, S.2.1, S.2.2.1, S.2.2.2.1, S.2.2.2.2.1, S.2.2.2.2.2.1, v, S.2.2.2.2.2.2.2)
def hs_warmth (S : HallT) (v : Int32) : HallT := (S.1, S.2.1, S.2.2.1, S.2.2.2.1, S.2.2.2.2.1, S.2.2.2.2.2.1, S.2.2.2.2.2.2.1, v, S.2.2.2.2.2.2.2.2)
def hs_hour (S : HallT) (v : Int32) : HallT := (S.1, S.2.1, S.2.2.1, S.2.2.2.1, S.2.2.2.2.1, S.2.2.2.2.2.1, S.2.2.2.2.2.2.1, S.2.2.2.2.2.2.2.1, v, S.2.2.2.2.2.2.2.2.2)
def hs_beam (S : HallT) (v : Int32) : HallT := (S.1, S.2.1, S.2.2.1, S.2.2.2.1, S.2.2.2.2.1, S.2.2.2.2.2.1, S.2.2.2.2.2.2.1, S.2.2.2.2.2.2.2.1, S.2.2.2.2.2.2.2.2.1, v, S.2.2.2.2.2.2.2.2.2.2)
def hs_chance (S : HallT) (v : Int32) : HallT := (S.1, S.2.1, S.2.2.1, S.2.2.2.1, S.2.2.2.2.1, S.2.2.2.2.2.1, S.2.2.2.2.2.2.1, S.2.2.2.2.2.2.2.1, S.2.2.2.2.2.2.2.2.1, S.2.2.2.2.2.2.2.2.2.1, v, S.2.2.2.2.2.2.2.2.2.2.2)
def hs_seed (S : HallT) (v : Int32) : HallT := (S.1, S.2.1, S.2.2.1, S.2.2.2.1, S.2.2.2.2.1, S.2.2.2.2.2.1, S.2.2.2.2.2.2.1, S.2.2.2.2.2.2.2.1, S.2.2.2.2.2.2.2.2.1, S.2.2.2.2.2.2.2.2.2.1, S.2.2.2.2.2.2.2.2.2.2.1, v)
def wdH (G : GG) (a : Nat → Nat) (S : HallT) : va_W := [((a 0), .inr (1, [.int (h_side S), .int (h_count S), .ref (a 1), .ref (a 2), .ref (a 3), .int (h_doors S), .int (h_fan S), .int (h_warmth S), .int (h_hour S), .int (h_beam S), .int (h_chance S), .int (h_seed S)])), ((a 1), iA G 10 (h_kindOf S)), ((a 2), iA G 10 (h_weightOf S)), ((a 3), iA G 10 (h_cellOf S))]
abbrev ShT : Type := Int32 × Int32 × Int32 × Int32 × (Nat → Int64)
def sh_held (S : ShT) : Int32 := S.1
def sh_sort (S : ShT) : Int32 := S.2.1
def sh_size (S : ShT) : Int32 := S.2.2.1
def sh_number (S : ShT) : Int32 := S.2.2.2.1
def sh_elements (S : ShT) : (Nat → Int64) := S.2.2.2.2
def shs_held (S : ShT) (v : Int32) : ShT := (v, S.2)
def shs_sort (S : ShT) (v : Int32) : ShT := (S.1, v, S.2.2)
def shs_size (S : ShT) (v : Int32) : ShT := (S.1, S.2.1, v, S.2.2.2)
def shs_number (S : ShT) (v : Int32) : ShT := (S.1, S.2.1, S.2.2.1, v, S.2.2.2.2)
def shs_elements (S : ShT) (v : (Nat → Int64)) : ShT := (S.1, S.2.1, S.2.2.1, S.2.2.2.1, v)
def wdS (G : GG) (a : Nat → Nat) (S : ShT) : va_W := [((a 0), .inr (2, [.int (sh_held S), .int (sh_sort S), .int (sh_size S), .int (sh_number S), .ref (a 1)])), ((a 1), lA G 40 (sh_elements S))]
abbrev TapeT : Type := (Nat → Int32) × Int32 × Int32 × Int32 × Int32
def t_bytes (S : TapeT) : (Nat → Int32) := S.1
def t_size (S : TapeT) : Int32 := S.2.1
def t_start (S : TapeT) : Int32 := S.2.2.1
def t_at (S : TapeT) : Int32 := S.2.2.2.1
def t_token (S : TapeT) : Int32 := S.2.2.2.2
def ts_bytes (S : TapeT) (v : (Nat → Int32)) : TapeT := (v, S.2)
def ts_size (S : TapeT) (v : Int32) : TapeT := (S.1, v, S.2.2)
def ts_start (S : TapeT) (v : Int32) : TapeT := (S.1, S.2.1, v, S.2.2.2)
def ts_at (S : TapeT) (v : Int32) : TapeT := (S.1, S.2.1, S.2.2.1, v, S.2.2.2.2)
def ts_token (S : TapeT) (v : Int32) : TapeT := (S.1, S.2.1, S.2.2.1, S.2.2.2.1, v)
def wdT (G : GG) (a : Nat → Nat) (S : TapeT) : va_W := [((a 0), .inr (3, [.ref (a 1), .int (t_size S), .int (t_start S), .int (t_at S), .int (t_token S)])), ((a 1), iA G 250 (t_bytes S))]
abbrev DwT : Type := Int64 × Int64 × Int64
def dw_all (S : DwT) : Int64 := S.1
def dw_carried (S : DwT) : Int64 := S.2.1
def dw_voted (S : DwT) : Int64 := S.2.2
def dws_all (S : DwT) (v : Int64) : DwT := (v, S.2)
def dws_carried (S : DwT) (v : Int64) : DwT := (S.1, v, S.2.2)
def dws_voted (S : DwT) (v : Int64) : DwT := (S.1, S.2.1, v)
def wdW (G : GG) (a : Nat → Nat) (S : DwT) : va_W := [((a 0), .inr (0, [.ref (a 1), .long (dw_all S), .long (dw_carried S), .long (dw_voted S)]))]
abbrev DrT : Type := (Nat → HallT) × DwT
def d_deep (S : DrT) : (Nat → HallT) := S.1
def d_w (S : DrT) : DwT := S.2
def ds_deep (S : DrT) (v : (Nat → HallT)) : DrT := (v, S.2)
def ds_w (S : DrT) (v : DwT) : DrT := (S.1, v)
def wdD (G : GG) (a : Nat → Nat) (S : DrT) : va_W := [((a 0), .inr (0, [.ref (a 1), .long (dw_all (d_w S)), .long (dw_carried (d_w S)), .long (dw_voted (d_w S))])), ((a 1), rA (G.cA 2) 4 (fun j => some (a (2 + 4 * j)))), ((a 2), .inr (1, [.int (h_side (d_deep S 0)), .int (h_count (d_deep S 0)), .ref (a 3), .ref (a 4), .ref (a 5), .int (h_doors (d_deep S 0)), .int (h_fan (d_deep S 0)), .int (h_warmth (d_deep S 0)), .int (h_hour (d_deep S 0)), .int (h_beam (d_deep S 0)), .int (h_chance (d_deep S 0)), .int (h_seed (d_deep S 0))])), ((a 3), iA G 10 (h_kindOf (d_deep S 0))), ((a 4), iA G 10 (h_weightOf (d_deep S 0))), ((a 5), iA G 10 (h_cellOf (d_deep S 0))), ((a 6), .inr (1, [.int (h_side (d_deep S 1)), .int (h_count (d_deep S 1)), .ref (a 7), .ref (a 8), .ref (a 9), .int (h_doors (d_deep S 1)), .int (h_fan (d_deep S 1)), .int (h_warmth (d_deep S 1)), .int (h_hour (d_deep S 1)), .int (h_beam (d_deep S 1)), .int (h_chance (d_deep S 1)), .int (h_seed (d_deep S 1))])), ((a 7), iA G 10 (h_kindOf (d_deep S 1))), ((a 8), iA G 10 (h_weightOf (d_deep S 1))), ((a 9), iA G 10 (h_cellOf (d_deep S 1))), ((a 10), .inr (1, [.int (h_side (d_deep S 2)), .int (h_count (d_deep S 2)), .ref (a 11), .ref (a 12), .ref (a 13), .int (h_doors (d_deep S 2)), .int (h_fan (d_deep S 2)), .int (h_warmth (d_deep S 2)), .int (h_hour (d_deep S 2)), .int (h_beam (d_deep S 2)), .int (h_chance (d_deep S 2)), .int (h_seed (d_deep S 2))])), ((a 11), iA G 10 (h_kindOf (d_deep S 2))), ((a 12), iA G 10 (h_weightOf (d_deep S 2))), ((a 13), iA G 10 (h_cellOf (d_deep S 2))), ((a 14), .inr (1, [.int (h_side (d_deep S 3)), .int (h_count (d_deep S 3)), .ref (a 15), .ref (a 16), .ref (a 17), .int (h_doors (d_deep S 3)), .int (h_fan (d_deep S 3)), .int (h_warmth (d_deep S 3)), .int (h_hour (d_deep S 3)), .int (h_beam (d_deep S 3)), .int (h_chance (d_deep S 3)), .int (h_seed (d_deep S 3))])), ((a 15), iA G 10 (h_kindOf (d_deep S 3))), ((a 16), iA G 10 (h_weightOf (d_deep S 3))), ((a 17), iA G 10 (h_cellOf (d_deep S 3)))]
abbrev XT : Type := HallT × HallT × HallT × Int32 × (Nat → ShT) × TapeT × DrT × (Nat → Int32) × (Nat → Int32)
def x_now (S : XT) : HallT := S.1
def x_kept (S : XT) : HallT := S.2.1
def x_trial (S : XT) : HallT := S.2.2.1
def x_isKept (S : XT) : Int32 := S.2.2.2.1
def x_sh (S : XT) : (Nat → ShT) := S.2.2.2.2.1
def x_tape (S : XT) : TapeT := S.2.2.2.2.2.1
def x_dr (S : XT) : DrT := S.2.2.2.2.2.2.1
def x_refusals (S : XT) : (Nat → Int32) := S.2.2.2.2.2.2.2.1
def x_sets (S : XT) : (Nat → Int32) := S.2.2.2.2.2.2.2.2
def xs_now (S : XT) (v : HallT) : XT := (v, S.2)
def xs_kept (S : XT) (v : HallT) : XT := (S.1, v, S.2.2)
def xs_trial (S : XT) (v : HallT) : XT := (S.1, S.2.1, v, S.2.2.2)
def xs_isKept (S : XT) (v : Int32) : XT := (S.1, S.2.1, S.2.2.1, v, S.2.2.2.2)
def xs_sh (S : XT) (v : (Nat → ShT)) : XT := (S.1, S.2.1, S.2.2.1, S.2.2.2.1, v, S.2.2.2.2.2)
def xs_tape (S : XT) (v : TapeT) : XT := (S.1, S.2.1, S.2.2.1, S.2.2.2.1, S.2.2.2.2.1, v, S.2.2.2.2.2.2)
def xs_dr (S : XT) (v : DrT) : XT := (S.1, S.2.1, S.2.2.1, S.2.2.2.1, S.2.2.2.2.1, S.2.2.2.2.2.1, v, S.2.2.2.2.2.2.2)
def xs_refusals (S : XT) (v : (Nat → Int32)) : XT := (S.1, S.2.1, S.2.2.1, S.2.2.2.1, S.2.2.2.2.1, S.2.2.2.2.2.1, S.2.2.2.2.2.2.1, v, S.2.2.2.2.2.2.2.2)
def xs_sets (S : XT) (v : (Nat → Int32)) : XT := (S.1, S.2.1, S.2.2.1, S.2.2.2.1, S.2.2.2.2.1, S.2.2.2.2.2.1, S.2.2.2.2.2.2.1, S.2.2.2.2.2.2.2.1, v)
def wdX (G : GG) (a : Nat → Nat) (S : XT) : va_W := [((a 0), .inr (4, [.ref (a 4), .ref (a 8), .ref (a 12), .int (x_isKept S), .ref (a 3), .ref (a 16), .ref (a 18), .ref (a 1), .ref (a 2)])), ((a 1), iA G 5 (x_refusals S)), ((a 2), iA G 91 (x_sets S)), ((a 3), rA (G.cA 3) 8 (fun j => some (a (36 + 2 * j)))), ((a 4), .inr (1, [.int (h_side (x_now S)), .int (h_count (x_now S)), .ref (a 5), .ref (a 6), .ref (a 7), .int (h_doors (x_now S)), .int (h_fan (x_now S)), .int (h_warmth (x_now S)), .int (h_hour (x_now S)), .int (h_beam (x_now S)), .int (h_chance (x_now S)), .int (h_seed (x_now S))])), ((a 5), iA G 10 (h_kindOf (x_now S))), ((a 6), iA G 10 (h_weightOf (x_now S))), ((a 7), iA G 10 (h_cellOf (x_now S))), ((a 8), .inr (1, [.int (h_side (x_kept S)), .int (h_count (x_kept S)), .ref (a 9), .ref (a 10), .ref (a 11), .int (h_doors (x_kept S)), .int (h_fan (x_kept S)), .int (h_warmth (x_kept S)), .int (h_hour (x_kept S)), .int (h_beam (x_kept S)), .int (h_chance (x_kept S)), .int (h_seed (x_kept S))])), ((a 9), iA G 10 (h_kindOf (x_kept S))), ((a 10), iA G 10 (h_weightOf (x_kept S))), ((a 11), iA G 10 (h_cellOf (x_kept S))), ((a 12), .inr (1, [.int (h_side (x_trial S)), .int (h_count (x_trial S)), .ref (a 13), .ref (a 14), .ref (a 15), .int (h_doors (x_trial S)), .int (h_fan (x_trial S)), .int (h_warmth (x_trial S)), .int (h_hour (x_trial S)), .int (h_beam (x_trial S)), .int (h_chance (x_trial S)), .int (h_seed (x_trial S))])), ((a 13), iA G 10 (h_kindOf (x_trial S))), ((a 14), iA G 10 (h_weightOf (x_trial S))), ((a 15), iA G 10 (h_cellOf (x_trial S))), ((a 16), .inr (3, [.ref (a 17), .int (t_size (x_tape S)), .int (t_start (x_tape S)), .int (t_at (x_tape S)), .int (t_token (x_tape S))])), ((a 17), iA G 250 (t_bytes (x_tape S))), ((a 18), .inr (0, [.ref (a 19), .long (dw_all (d_w (x_dr S))), .long (dw_carried (d_w (x_dr S))), .long (dw_voted (d_w (x_dr S)))])), ((a 19), rA (G.cA 2) 4 (fun j => some (a (20 + 4 * j)))), ((a 20), .inr (1, [.int (h_side (d_deep (x_dr S) 0)), .int (h_count (d_deep (x_dr S) 0)), .ref (a 21), .ref (a 22), .ref (a 23), .int (h_doors (d_deep (x_dr S) 0)), .int (h_fan (d_deep (x_dr S) 0)), .int (h_warmth (d_deep (x_dr S) 0)), .int (h_hour (d_deep (x_dr S) 0)), .int (h_beam (d_deep (x_dr S) 0)), .int (h_chance (d_deep (x_dr S) 0)), .int (h_seed (d_deep (x_dr S) 0))])), ((a 21), iA G 10 (h_kindOf (d_deep (x_dr S) 0))), ((a 22), iA G 10 (h_weightOf (d_deep (x_dr S) 0))), ((a 23), iA G 10 (h_cellOf (d_deep (x_dr S) 0))), ((a 24), .inr (1, [.int (h_side (d_deep (x_dr S) 1)), .int (h_count (d_deep (x_dr S) 1)), .ref (a 25), .ref (a 26), .ref (a 27), .int (h_doors (d_deep (x_dr S) 1)), .int (h_fan (d_deep (x_dr S) 1)), .int (h_warmth (d_deep (x_dr S) 1)), .int (h_hour (d_deep (x_dr S) 1)), .int (h_beam (d_deep (x_dr S) 1)), .int (h_chance (d_deep (x_dr S) 1)), .int (h_seed (d_deep (x_dr S) 1))])), ((a 25), iA G 10 (h_kindOf (d_deep (x_dr S) 1))), ((a 26), iA G 10 (h_weightOf (d_deep (x_dr S) 1))), ((a 27), iA G 10 (h_cellOf (d_deep (x_dr S) 1))), ((a 28), .inr (1, [.int (h_side (d_deep (x_dr S) 2)), .int (h_count (d_deep (x_dr S) 2)), .ref (a 29), .ref (a 30), .ref (a 31), .int (h_doors (d_deep (x_dr S) 2)), .int (h_fan (d_deep (x_dr S) 2)), .int (h_warmth (d_deep (x_dr S) 2)), .int (h_hour (d_deep (x_dr S) 2)), .int (h_beam (d_deep (x_dr S) 2)), .int (h_chance (d_deep (x_dr S) 2)), .int (h_seed (d_deep (x_dr S) 2))])), ((a 29), iA G 10 (h_kindOf (d_deep (x_dr S) 2))), ((a 30), iA G 10 (h_weightOf (d_deep (x_dr S) 2))), ((a 31), iA G 10 (h_cellOf (d_deep (x_dr S) 2))), ((a 32), .inr (1, [.int (h_side (d_deep (x_dr S) 3)), .int (h_count (d_deep (x_dr S) 3)), .ref (a 33), .ref (a 34), .ref (a 35), .int (h_doors (d_deep (x_dr S) 3)), .int (h_fan (d_deep (x_dr S) 3)), .int (h_warmth (d_deep (x_dr S) 3)), .int (h_hour (d_deep (x_dr S) 3)), .int (h_beam (d_deep (x_dr S) 3)), .int (h_chance (d_deep (x_dr S) 3)), .int (h_seed (d_deep (x_dr S) 3))])), ((a 33), iA G 10 (h_kindOf (d_deep (x_dr S) 3))), ((a 34), iA G 10 (h_weightOf (d_deep (x_dr S) 3))), ((a 35), iA G 10 (h_cellOf (d_deep (x_dr S) 3))), ((a 36), .inr (2, [.int (sh_held (x_sh S 0)), .int (sh_sort (x_sh S 0)), .int (sh_size (x_sh S 0)), .int (sh_number (x_sh S 0)), .ref (a 37)])), ((a 37), lA G 40 (sh_elements (x_sh S 0))), ((a 38), .inr (2, [.int (sh_held (x_sh S 1)), .int (sh_sort (x_sh S 1)), .int (sh_size (x_sh S 1)), .int (sh_number (x_sh S 1)), .ref (a 39)])), ((a 39), lA G 40 (sh_elements (x_sh S 1))), ((a 40), .inr (2, [.int (sh_held (x_sh S 2)), .int (sh_sort (x_sh S 2)), .int (sh_size (x_sh S 2)), .int (sh_number (x_sh S 2)), .ref (a 41)])), ((a 41), lA G 40 (sh_elements (x_sh S 2))), ((a 42), .inr (2, [.int (sh_held (x_sh S 3)), .int (sh_sort (x_sh S 3)), .int (sh_size (x_sh S 3)), .int (sh_number (x_sh S 3)), .ref (a 43)])), ((a 43), lA G 40 (sh_elements (x_sh S 3))), ((a 44), .inr (2, [.int (sh_held (x_sh S 4)), .int (sh_sort (x_sh S 4)), .int (sh_size (x_sh S 4)), .int (sh_number (x_sh S 4)), .ref (a 45)])), ((a 45), lA G 40 (sh_elements (x_sh S 4))), ((a 46), .inr (2, [.int (sh_held (x_sh S 5)), .int (sh_sort (x_sh S 5)), .int (sh_size (x_sh S 5)), .int (sh_number (x_sh S 5)), .ref (a 47)])), ((a 47), lA G 40 (sh_elements (x_sh S 5))), ((a 48), .inr (2, [.int (sh_held (x_sh S 6)), .int (sh_sort (x_sh S 6)), .int (sh_size (x_sh S 6)), .int (sh_number (x_sh S 6)), .ref (a 49)])), ((a 49), lA G 40 (sh_elements (x_sh S 6))), ((a 50), .inr (2, [.int (sh_held (x_sh S 7)), .int (sh_sort (x_sh S 7)), .int (sh_size (x_sh S 7)), .int (sh_number (x_sh S 7)), .ref (a 51)])), ((a 51), lA G 40 (sh_elements (x_sh S 7)))]
abbrev MT : Type := Int32 × Int32 × (Nat → Int32) × (Nat → Int32) × (Nat → Int32) × Int32 × (Nat → Int32) × Int32 × Int32 × (Nat → Int32) × Int32 × Int32 × Int32 × Int32 × (Nat → Int32) × (Nat → Int32) × (Nat → Int64) × (Nat → Int32) × Int32 × (Nat → Int32) × (Nat → Int32) × (Nat → Int32) × Int32 × (Nat → Int32) × (Nat → Int32) × Int64 × Int64
def m_n (S : MT) : Int32 := S.1
def m_motes (S : MT) : Int32 := S.2.1
def m_kind (S : MT) : (Nat → Int32) := S.2.2.1
def m_own (S : MT) : (Nat → Int32) := S.2.2.2.1
def m_cell (S : MT) : (Nat → Int32) := S.2.2.2.2.1
def m_doors (S : MT) : Int32 := S.2.2.2.2.2.1
def m_ways (S : MT) : (Nat → Int32) := S.2.2.2.2.2.2.1
def m_seed (S : MT) : Int32 := S.2.2.2.2.2.2.2.1
def m_taped (S : MT) : Int32 := S.2.2.2.2.2.2.2.2.1
def m_tape (S : MT) : (Nat → Int32) := S.2.2.2.2.2.2.2.2.2.1
def m_from (S : MT) : Int32 := S.2.2.2.2.2.2.2.2.2.2.1
def m_to (S : MT) : Int32 := S.2.2.2.2.2.2.2.2.2.2.2.1
def m_token (S : MT) : Int32 := S.2.2.2.2.2.2.2.2.2.2.2.2.1
def m_value (S : MT) : Int32 := S.2.2.2.2.2.2.2.2.2.2.2.2.2.1
def m_holding (S : MT) : (Nat → Int32) := S.2.2.2.2.2.2.2.2.2.2.2.2.2.2.1
def m_rowLength (S : MT) : (Nat → Int32) := S.2.2.2.2.2.2.2.2.2.2.2.2.2.2.2.1
def m_rowOf (S : MT) : (Nat → Int64) := S.2.2.2.2.2.2.2.2.2.2.2.2.2.2.2.2.1
def m_refusals (S : MT) : (Nat → Int32) := S.2.2.2.2.2.2.2.2.2.2.2.2.2.2.2.2.2.1
def m_imaged (S : MT) : Int32 := S.2.2.2.2.2.2.2.2.2.2.2.2.2.2.2.2.2.2.1
def m_old (S : MT) : (Nat → Int32) := S.2.2.2.2.2.2.2.2.2.2.2.2.2.2.2.2.2.2.2.1
def m_ahead (S : MT) : (Nat → Int32) := S.2.2.2.2.2.2.2.2.2.2.2.2.2.2.2.2.2.2.2.2.1
def m_was (S : MT) : (Nat → Int32) := S.2.2.2.2.2.2.2.2.2.2.2.2.2.2.2.2.2.2.2.2.2.1
def m_wasHour (S : MT) : Int32 := S.2.2.2.2.2.2.2.2.2.2.2.2.2.2.2.2.2.2.2.2.2.2.1
def m_stackCell (S : MT) : (Nat → Int32) := S.2.2.2.2.2.2.2.2.2.2.2.2.2.2.2.2.2.2.2.2.2.2.2.1
def m_stackHour (S : MT) : (Nat → Int32) := S.2.2.2.2.2.2.2.2.2.2.2.2.2.2.2.2.2.2.2.2.2.2.2.2.1
def m_carried (S : MT) : Int64 := S.2.2.2.2.2.2.2.2.2.2.2.2.2.2.2.2.2.2.2.2.2.2.2.2.2.1
def m_meanVotes (S : MT) : Int64 := S.2.2.2.2.2.2.2.2.2.2.2.2.2.2.2.2.2.2.2.2.2.2.2.2.2.2
def ms_n (S : MT) (v : Int32) : MT := (v, S.2)
def ms_motes (S : MT) (v : Int32) : MT := (S.1, v, S.2.2)
def ms_kind (S : MT) (v : (Nat → Int32)) : MT := (S.1, S.2.1, v, S.2.2.2)
def ms_own (S : MT) (v : (Nat → Int32)) : MT := (S.1, S.2.1, S.2.2.1, v, S.2.2.2.2)
def ms_cell (S : MT) (v : (Nat → Int32)) : MT := (S.1, S.2.1, S.2.2.1, S.2.2.2.1, v, S.2.2.2.2.2)
def ms_doors (S : MT) (v : Int32) : MT := (S.1, S.2.1, S.2.2.1, S.2.2.2.1, S.2.2.2.2.1, v, S.2.2.2.2.2.2)
def ms_ways (S : MT) (v : (Nat → Int32)) : MT := (S.1, S.2.1, S.2.2.1, S.2.2.2.1, S.2.2.2.2.1, S.2.2.2.2.2.1, v, S.2.2.2.2.2.2.2)
def ms_seed (S : MT) (v : Int32) : MT := (S.1, S.2.1, S.2.2.1, S.2.2.2.1, S.2.2.2.2.1, S.2.2.2.2.2.1, S.2.2.2.2.2.2.1, v, S.2.2.2.2.2.2.2.2)
def ms_taped (S : MT) (v : Int32) : MT := (S.1, S.2.1, S.2.2.1, S.2.2.2.1, S.2.2.2.2.1, S.2.2.2.2.2.1, S.2.2.2.2.2.2.1, S.2.2.2.2.2.2.2.1, v, S.2.2.2.2.2.2.2.2.2)
def ms_tape (S : MT) (v : (Nat → Int32)) : MT := (S.1, S.2.1, S.2.2.1, S.2.2.2.1, S.2.2.2.2.1, S.2.2.2.2.2.1, S.2.2.2.2.2.2.1, S.2.2.2.2.2.2.2.1, S.2.2.2.2.2.2.2.2.1, v, S.2.2.2.2.2.2.2.2.2.2)
def ms_from (S : MT) (v : Int32) : MT := (S.1, S.2.1, S.2.2.1, S.2.2.2.1, S.2.2.2.2.1, S.2.2.2.2.2.1, S.2.2.2.2.2.2.1, S.2.2.2.2.2.2.2.1, S.2.2.2.2.2.2.2.2.1, S.2.2.2.2.2.2.2.2.2.1, v, S.2.2.2.2.2.2.2.2.2.2.2)
def ms_to (S : MT) (v : Int32) : MT := (S.1, S.2.1, S.2.2.1, S.2.2.2.1, S.2.2.2.2.1, S.2.2.2.2.2.1, S.2.2.2.2.2.2.1, S.2.2.2.2.2.2.2.1, S.2.2.2.2.2.2.2.2.1, S.2.2.2.2.2.2.2.2.2.1, S.2.2.2.2.2.2.2.2.2.2.1, v, S.2.2.2.2.2.2.2.2.2.2.2.2)
def ms_token (S : MT) (v : Int32) : MT := (S.1, S.2.1, S.2.2.1, S.2.2.2.1, S.2.2.2.2.1, S.2.2.2.2.2.1, S.2.2.2.2.2.2.1, S.2.2.2.2.2.2.2.1, S.2.2.2.2.2.2.2.2.1, S.2.2.2.2.2.2.2.2.2.1, S.2.2.2.2.2.2.2.2.2.2.1, S.2.2.2.2.2.2.2.2.2.2.2.1, v, S.2.2.2.2.2.2.2.2.2.2.2.2.2)
def ms_value (S : MT) (v : Int32) : MT := (S.1, S.2.1, S.2.2.1, S.2.2.2.1, S.2.2.2.2.1, S.2.2.2.2.2.1, S.2.2.2.2.2.2.1, S.2.2.2.2.2.2.2.1, S.2.2.2.2.2.2.2.2.1, S.2.2.2.2.2.2.2.2.2.1, S.2.2.2.2.2.2.2.2.2.2.1, S.2.2.2.2.2.2.2.2.2.2.2.1, S.2.2.2.2.2.2.2.2.2.2.2.2.1, v, S.2.2.2.2.2.2.2.2.2.2.2.2.2.2)
def ms_holding (S : MT) (v : (Nat → Int32)) : MT := (S.1, S.2.1, S.2.2.1, S.2.2.2.1, S.2.2.2.2.1, S.2.2.2.2.2.1, S.2.2.2.2.2.2.1, S.2.2.2.2.2.2.2.1, S.2.2.2.2.2.2.2.2.1, S.2.2.2.2.2.2.2.2.2.1, S.2.2.2.2.2.2.2.2.2.2.1, S.2.2.2.2.2.2.2.2.2.2.2.1, S.2.2.2.2.2.2.2.2.2.2.2.2.1, S.2.2.2.2.2.2.2.2.2.2.2.2.2.1, v, S.2.2.2.2.2.2.2.2.2.2.2.2.2.2.2)
def ms_rowLength (S : MT) (v : (Nat → Int32)) : MT := (S.1, S.2.1, S.2.2.1, S.2.2.2.1, S.2.2.2.2.1, S.2.2.2.2.2.1, S.2.2.2.2.2.2.1, S.2.2.2.2.2.2.2.1, S.2.2.2.2.2.2.2.2.1, S.2.2.2.2.2.2.2.2.2.1, S.2.2.2.2.2.2.2.2.2.2.1, S.2.2.2.2.2.2.2.2.2.2.2.1, S.2.2.2.2.2.2.2.2.2.2.2.2.1, S.2.2.2.2.2.2.2.2.2.2.2.2.2.1, S.2.2.2.2.2.2.2.2.2.2.2.2.2.2.1, v, S.2.2.2.2.2.2.2.2.2.2.2.2.2.2.2.2)
def ms_rowOf (S : MT) (v : (Nat → Int64)) : MT := (S.1, S.2.1, S.2.2.1, S.2.2.2.1, S.2.2.2.2.1, S.2.2.2.2.2.1, S.2.2.2.2.2.2.1, S.2.2.2.2.2.2.2.1, S.2.2.2.2.2.2.2.2.1, S.2.2.2.2.2.2.2.2.2.1, S.2.2.2.2.2.2.2.2.2.2.1, S.2.2.2.2.2.2.2.2.2.2.2.1, S.2.2.2.2.2.2.2.2.2.2.2.2.1, S.2.2.2.2.2.2.2.2.2.2.2.2.2.1, S.2.2.2.2.2.2.2.2.2.2.2.2.2.2.1, S.2.2.2.2.2.2.2.2.2.2.2.2.2.2.2.1, v, S.2.2.2.2.2.2.2.2.2.2.2.2.2.2.2.2.2)
def ms_refusals (S : MT) (v : (Nat → Int32)) : MT := (S.1, S.2.1, S.2.2.1, S.2.2.2.1, S.2.2.2.2.1, S.2.2.2.2.2.1, S.2.2.2.2.2.2.1, S.2.2.2.2.2.2.2.1, S.2.2.2.2.2.2.2.2.1, S.2.2.2.2.2.2.2.2.2.1, S.2.2.2.2.2.2.2.2.2.2.1, S.2.2.2.2.2.2.2.2.2.2.2.1, S.2.2.2.2.2.2.2.2.2.2.2.2.1, S.2.2.2.2.2.2.2.2.2.2.2.2.2.1, S.2.2.2.2.2.2.2.2.2.2.2.2.2.2.1, S.2.2.2.2.2.2.2.2.2.2.2.2.2.2.2.1, S.2.2.2.2.2.2.2.2.2.2.2.2.2.2.2.2.1, v, S.2.2.2.2.2.2.2.2.2.2.2.2.2.2.2.2.2.2)
def ms_imaged (S : MT) (v : Int32) : MT := (S.1, S.2.1, S.2.2.1, S.2.2.2.1, S.2.2.2.2.1, S.2.2.2.2.2.1, S.2.2.2.2.2.2.1, S.2.2.2.2.2.2.2.1, S.2.2.2.2.2.2.2.2.1, S.2.2.2.2.2.2.2.2.2.1, S.2.2.2.2.2.2.2.2.2.2.1, S.2.2.2.2.2.2.2.2.2.2.2.1, S.2.2.2.2.2.2.2.2.2.2.2.2.1, S.2.2.2.2.2.2.2.2.2.2.2.2.2.1, S.2.2.2.2.2.2.2.2.2.2.2.2.2.2.1, S.2.2.2.2.2.2.2.2.2.2.2.2.2.2.2.1, S.2.2.2.2.2.2.2.2.2.2.2.2.2.2.2.2.1, S.2.2.2.2.2.2.2.2.2.2.2.2.2.2.2.2.2.1, v, S.2.2.2.2.2.2.2.2.2.2.2.2.2.2.2.2.2.2.2)
def ms_old (S : MT) (v : (Nat → Int32)) : MT := (S.1, S.2.1, S.2.2.1, S.2.2.2.1, S.2.2.2.2.1, S.2.2.2.2.2.1, S.2.2.2.2.2.2.1, S.2.2.2.2.2.2.2.1, S.2.2.2.2.2.2.2.2.1, S.2.2.2.2.2.2.2.2.2.1, S.2.2.2.2.2.2.2.2.2.2.1, S.2.2.2.2.2.2.2.2.2.2.2.1, S.2.2.2.2.2.2.2.2.2.2.2.2.1, S.2.2.2.2.2.2.2.2.2.2.2.2.2.1, S.2.2.2.2.2.2.2.2.2.2.2.2.2.2.1, S.2.2.2.2.2.2.2.2.2.2.2.2.2.2.2.1, S.2.2.2.2.2.2.2.2.2.2.2.2.2.2.2.2.1, S.2.2.2.2.2.2.2.2.2.2.2.2.2.2.2.2.2.1, S.2.2.2.2.2.2.2.2.2.2.2.2.2.2.2.2.2.2.1, v, S.2.2.2.2.2.2.2.2.2.2.2.2.2.2.2.2.2.2.2.2)
def ms_ahead (S : MT) (v : (Nat → Int32)) : MT := (S.1, S.2.1, S.2.2.1, S.2.2.2.1, S.2.2.2.2.1, S.2.2.2.2.2.1, S.2.2.2.2.2.2.1, S.2.2.2.2.2.2.2.1, S.2.2.2.2.2.2.2.2.1, S.2.2.2.2.2.2.2.2.2.1, S.2.2.2.2.2.2.2.2.2.2.1, S.2.2.2.2.2.2.2.2.2.2.2.1, S.2.2.2.2.2.2.2.2.2.2.2.2.1, S.2.2.2.2.2.2.2.2.2.2.2.2.2.1, S.2.2.2.2.2.2.2.2.2.2.2.2.2.2.1, S.2.2.2.2.2.2.2.2.2.2.2.2.2.2.2.1, S.2.2.2.2.2.2.2.2.2.2.2.2.2.2.2.2.1, S.2.2.2.2.2.2.2.2.2.2.2.2.2.2.2.2.2.1, S.2.2.2.2.2.2.2.2.2.2.2.2.2.2.2.2.2.2.1, S.2.2.2.2.2.2.2.2.2.2.2.2.2.2.2.2.2.2.2.1, v, S.2.2.2.2.2.2.2.2.2.2.2.2.2.2.2.2.2.2.2.2.2)
def ms_was (S : MT) (v : (Nat → Int32)) : MT := (S.1, S.2.1, S.2.2.1, S.2.2.2.1, S.2.2.2.2.1, S.2.2.2.2.2.1, S.2.2.2.2.2.2.1, S.2.2.2.2.2.2.2.1, S.2.2.2.2.2.2.2.2.1, S.2.2.2.2.2.2.2.2.2.1, S.2.2.2.2.2.2.2.2.2.2.1, S.2.2.2.2.2.2.2.2.2.2.2.1, S.2.2.2.2.2.2.2.2.2.2.2.2.1, S.2.2.2.2.2.2.2.2.2.2.2.2.2.1, S.2.2.2.2.2.2.2.2.2.2.2.2.2.2.1, S.2.2.2.2.2.2.2.2.2.2.2.2.2.2.2.1, S.2.2.2.2.2.2.2.2.2.2.2.2.2.2.2.2.1, S.2.2.2.2.2.2.2.2.2.2.2.2.2.2.2.2.2.1, S.2.2.2.2.2.2.2.2.2.2.2.2.2.2.2.2.2.2.1, S.2.2.2.2.2.2.2.2.2.2.2.2.2.2.2.2.2.2.2.1, S.2.2.2.2.2.2.2.2.2.2.2.2.2.2.2.2.2.2.2.2.1, v, S.2.2.2.2.2.2.2.2.2.2.2.2.2.2.2.2.2.2.2.2.2.2)
def ms_wasHour (S : MT) (v : Int32) : MT := (S.1, S.2.1, S.2.2.1, S.2.2.2.1, S.2.2.2.2.1, S.2.2.2.2.2.1, S.2.2.2.2.2.2.1, S.2.2.2.2.2.2.2.1, S.2.2.2.2.2.2.2.2.1, S.2.2.2.2.2.2.2.2.2.1, S.2.2.2.2.2.2.2.2.2.2.1, S.2.2.2.2.2.2.2.2.2.2.2.1, S.2.2.2.2.2.2.2.2.2.2.2.2.1, S.2.2.2.2.2.2.2.2.2.2.2.2.2.1, S.2.2.2.2.2.2.2.2.2.2.2.2.2.2.1, S.2.2.2.2.2.2.2.2.2.2.2.2.2.2.2.1, S.2.2.2.2.2.2.2.2.2.2.2.2.2.2.2.2.1, S.2.2.2.2.2.2.2.2.2.2.2.2.2.2.2.2.2.1, S.2.2.2.2.2.2.2.2.2.2.2.2.2.2.2.2.2.2.1, S.2.2.2.2.2.2.2.2.2.2.2.2.2.2.2.2.2.2.2.1, S.2.2.2.2.2.2.2.2.2.2.2.2.2.2.2.2.2.2.2.2.1, S.2.2.2.2.2.2.2.2.2.2.2.2.2.2.2.2.2.2.2.2.2.1, v, S.2.2.2.2.2.2.2.2.2.2.2.2.2.2.2.2.2.2.2.2.2.2.2)
def ms_stackCell (S : MT) (v : (Nat → Int32)) : MT := (S.1, S.2.1, S.2.2.1, S.2.2.2.1, S.2.2.2.2.1, S.2.2.2.2.2.1, S.2.2.2.2.2.2.1, S.2.2.2.2.2.2.2.1, S.2.2.2.2.2.2.2.2.1, S.2.2.2.2.2.2.2.2.2.1, S.2.2.2.2.2.2.2.2.2.2.1, S.2.2.2.2.2.2.2.2.2.2.2.1, S.2.2.2.2.2.2.2.2.2.2.2.2.1, S.2.2.2.2.2.2.2.2.2.2.2.2.2.1, S.2.2.2.2.2.2.2.2.2.2.2.2.2.2.1, S.2.2.2.2.2.2.2.2.2.2.2.2.2.2.2.1, S.2.2.2.2.2.2.2.2.2.2.2.2.2.2.2.2.1, S.2.2.2.2.2.2.2.2.2.2.2.2.2.2.2.2.2.1, S.2.2.2.2.2.2.2.2.2.2.2.2.2.2.2.2.2.2.1, S.2.2.2.2.2.2.2.2.2.2.2.2.2.2.2.2.2.2.2.1, S.2.2.2.2.2.2.2.2.2.2.2.2.2.2.2.2.2.2.2.2.1, S.2.2.2.2.2.2.2.2.2.2.2.2.2.2.2.2.2.2.2.2.2.1, S.2.2.2.2.2.2.2.2.2.2.2.2.2.2.2.2.2.2.2.2.2.2.1, v, S.2.2.2.2.2.2.2.2.2.2.2.2.2.2.2.2.2.2.2.2.2.2.2.2)
def ms_stackHour (S : MT) (v : (Nat → Int32)) : MT := (S.1, S.2.1, S.2.2.1, S.2.2.2.1, S.2.2.2.2.1, S.2.2.2.2.2.1, S.2.2.2.2.2.2.1, S.2.2.2.2.2.2.2.1, S.2.2.2.2.2.2.2.2.1, S.2.2.2.2.2.2.2.2.2.1, S.2.2.2.2.2.2.2.2.2.2.1, S.2.2.2.2.2.2.2.2.2.2.2.1, S.2.2.2.2.2.2.2.2.2.2.2.2.1, S.2.2.2.2.2.2.2.2.2.2.2.2.2.1, S.2.2.2.2.2.2.2.2.2.2.2.2.2.2.1, S.2.2.2.2.2.2.2.2.2.2.2.2.2.2.2.1, S.2.2.2.2.2.2.2.2.2.2.2.2.2.2.2.2.1, S.2.2.2.2.2.2.2.2.2.2.2.2.2.2.2.2.2.1, S.2.2.2.2.2.2.2.2.2.2.2.2.2.2.2.2.2.2.1, S.2.2.2.2.2.2.2.2.2.2.2.2.2.2.2.2.2.2.2.1, S.2.2.2.2.2.2.2.2.2.2.2.2.2.2.2.2.2.2.2.2.1, S.2.2.2.2.2.2.2.2.2.2.2.2.2.2.2.2.2.2.2.2.2.1, S.2.2.2.2.2.2.2.2.2.2.2.2.2.2.2.2.2.2.2.2.2.2.1, S.2.2.2.2.2.2.2.2.2.2.2.2.2.2.2.2.2.2.2.2.2.2.2.1, v, S.2.2.2.2.2.2.2.2.2.2.2.2.2.2.2.2.2.2.2.2.2.2.2.2.2)
def ms_carried (S : MT) (v : Int64) : MT := (S.1, S.2.1, S.2.2.1, S.2.2.2.1, S.2.2.2.2.1, S.2.2.2.2.2.1, S.2.2.2.2.2.2.1, S.2.2.2.2.2.2.2.1, S.2.2.2.2.2.2.2.2.1, S.2.2.2.2.2.2.2.2.2.1, S.2.2.2.2.2.2.2.2.2.2.1, S.2.2.2.2.2.2.2.2.2.2.2.1, S.2.2.2.2.2.2.2.2.2.2.2.2.1, S.2.2.2.2.2.2.2.2.2.2.2.2.2.1, S.2.2.2.2.2.2.2.2.2.2.2.2.2.2.1, S.2.2.2.2.2.2.2.2.2.2.2.2.2.2.2.1, S.2.2.2.2.2.2.2.2.2.2.2.2.2.2.2.2.1, S.2.2.2.2.2.2.2.2.2.2.2.2.2.2.2.2.2.1, S.2.2.2.2.2.2.2.2.2.2.2.2.2.2.2.2.2.2.1, S.2.2.2.2.2.2.2.2.2.2.2.2.2.2.2.2.2.2.2.1, S.2.2.2.2.2.2.2.2.2.2.2.2.2.2.2.2.2.2.2.2.1, S.2.2.2.2.2.2.2.2.2.2.2.2.2.2.2.2.2.2.2.2.2.1, S.2.2.2.2.2.2.2.2.2.2.2.2.2.2.2.2.2.2.2.2.2.2.1, S.2.2.2.2.2.2.2.2.2.2.2.2.2.2.2.2.2.2.2.2.2.2.2.1, S.2.2.2.2.2.2.2.2.2.2.2.2.2.2.2.2.2.2.2.2.2.2.2.2.1, v, S.2.2.2.2.2.2.2.2.2.2.2.2.2.2.2.2.2.2.2.2.2.2.2.2.2.2)
def ms_meanVotes (S : MT) (v : Int64) : MT := (S.1, S.2.1, S.2.2.1, S.2.2.2.1, S.2.2.2.2.1, S.2.2.2.2.2.1, S.2.2.2.2.2.2.1, S.2.2.2.2.2.2.2.1, S.2.2.2.2.2.2.2.2.1, S.2.2.2.2.2.2.2.2.2.1, S.2.2.2.2.2.2.2.2.2.2.1, S.2.2.2.2.2.2.2.2.2.2.2.1, S.2.2.2.2.2.2.2.2.2.2.2.2.1, S.2.2.2.2.2.2.2.2.2.2.2.2.2.1, S.2.2.2.2.2.2.2.2.2.2.2.2.2.2.1, S.2.2.2.2.2.2.2.2.2.2.2.2.2.2.2.1, S.2.2.2.2.2.2.2.2.2.2.2.2.2.2.2.2.1, S.2.2.2.2.2.2.2.2.2.2.2.2.2.2.2.2.2.1, S.2.2.2.2.2.2.2.2.2.2.2.2.2.2.2.2.2.2.1, S.2.2.2.2.2.2.2.2.2.2.2.2.2.2.2.2.2.2.2.1, S.2.2.2.2.2.2.2.2.2.2.2.2.2.2.2.2.2.2.2.2.1, S.2.2.2.2.2.2.2.2.2.2.2.2.2.2.2.2.2.2.2.2.2.1, S.2.2.2.2.2.2.2.2.2.2.2.2.2.2.2.2.2.2.2.2.2.2.1, S.2.2.2.2.2.2.2.2.2.2.2.2.2.2.2.2.2.2.2.2.2.2.2.1, S.2.2.2.2.2.2.2.2.2.2.2.2.2.2.2.2.2.2.2.2.2.2.2.2.1, S.2.2.2.2.2.2.2.2.2.2.2.2.2.2.2.2.2.2.2.2.2.2.2.2.2.1, v)
def wdM (G : GG) (a : Nat → Nat) (S : MT) : va_W := [((a 0), .inr (5, [.int (m_n S), .int (m_motes S), .ref (a 1), .ref (a 2), .ref (a 3), .int (m_doors S), .ref (a 4), .int (m_seed S), .int (m_taped S), .ref (a 5), .int (m_from S), .int (m_to S), .int (m_token S), .int (m_value S), .ref (a 6), .ref (a 7), .ref (a 8), .ref (a 9), .int (m_imaged S), .ref (a 10), .ref (a 11), .ref (a 12), .int (m_wasHour S), .ref (a 13), .ref (a 14), .long (m_carried S), .long (m_meanVotes S)])), ((a 1), iA G 10 (m_kind S)), ((a 2), iA G 10 (m_own S)), ((a 3), iA G 10 (m_cell S)), ((a 4), iA G 5 (m_ways S)), ((a 5), iA G 250 (m_tape S)), ((a 6), iA G 8 (m_holding S)), ((a 7), iA G 8 (m_rowLength S)), ((a 8), lA G 320 (m_rowOf S)), ((a 9), iA G 7 (m_refusals S)), ((a 10), iA G 39 (m_old S)), ((a 11), iA G 39 (m_ahead S)), ((a 12), iA G 10 (m_was S)), ((a 13), iA G 40 (m_stackCell S)), ((a 14), iA G 4 (m_stackHour S))]
def wdL (G : GG) (a : Nat → Nat) (S : (Nat → Int64)) : va_W := [((a 0), lA G 40 S)]
def wdI (G : GG) (a : Nat → Nat) (S : (Nat → Int32)) : va_W := [((a 0), iA G 91 S)]
theorem fg_Draughts_deep_0 {G : GG} {a : Nat → Nat} {S : DrT} {i : Nat} (h : i < 4) : (wdD G a S)[2 + 4 * i]? = some (a (2 + 4 * i), .inr (1, [.int (h_side (d_deep S i)), .int (h_count (d_deep S i)), .ref (a (2 + 4 * i + 1)), .ref (a (2 + 4 * i + 2)), .ref (a (2 + 4 * i + 3)), .int (h_doors (d_deep S i)), .int (h_fan (d_deep S i)), .int (h_warmth (d_deep S i)), .int (h_hour (d_deep S i)), .int (h_beam (d_deep S i)), .int (h_chance (d_deep S i)), .int (h_seed (d_deep S i))])) := by
  match i, h with
  | 0, _ => rfl
  | 1, _ => rfl
  | 2, _ => rfl
  | 3, _ => rfl
theorem fg_Draughts_deep_1 {G : GG} {a : Nat → Nat} {S : DrT} {i : Nat} (h : i < 4) : (wdD G a S)[2 + 4 * i + 1]? = some (a (2 + 4 * i + 1), iA G 10 (h_kindOf (d_deep S i))) := by
  match i, h with
  | 0, _ => rfl
  | 1, _ => rfl
  | 2, _ => rfl
  | 3, _ => rfl
theorem fg_Draughts_deep_2 {G : GG} {a : Nat → Nat} {S : DrT} {i : Nat} (h : i < 4) : (wdD G a S)[2 + 4 * i + 2]? = some (a (2 + 4 * i + 2), iA G 10 (h_weightOf (d_deep S i))) := by
  match i, h with
  | 0, _ => rfl
  | 1, _ => rfl
  | 2, _ => rfl
  | 3, _ => rfl
theorem fg_Draughts_deep_3 {G : GG} {a : Nat → Nat} {S : DrT} {i : Nat} (h : i < 4) : (wdD G a S)[2 + 4 * i + 3]? = some (a (2 + 4 * i + 3), iA G 10 (h_cellOf (d_deep S i))) := by
  match i, h with
  | 0, _ => rfl
  | 1, _ => rfl
  | 2, _ => rfl
  | 3, _ => rfl
theorem fc_Draughts_deep {G : GG} {a : Nat → Nat} {S : DrT} {i : Nat} (h : i < 4) : ([2 + 4 * i, 2 + 4 * i + 1, 2 + 4 * i + 2, 2 + 4 * i + 3]).map (fun q => (wdD G a S)[q]?) = (wdH G (fun j => a (2 + 4 * i + j)) (d_deep S i)).map some := by
  match i, h with
  | 0, _ => rfl
  | 1, _ => rfl
  | 2, _ => rfl
  | 3, _ => rfl
theorem fs_Draughts_deep {G : GG} {a : Nat → Nat} {S : DrT} {i : Nat} (h : i < 4) (v : HallT) : setm (wdD G a S) ([2 + 4 * i, 2 + 4 * i + 1, 2 + 4 * i + 2, 2 + 4 * i + 3]) (wdH G (fun j => a (2 + 4 * i + j)) v) = wdD G a (ds_deep S (va_up (d_deep S) i v)) := by
  match i, h with
  | 0, _ => rfl
  | 1, _ => rfl
  | 2, _ => rfl
  | 3, _ => rfl
theorem fp_Draughts_deep_doors {G : GG} {a : Nat → Nat} {S : DrT} {i : Nat} (h : i < 4) (x : Int32) : (wdD G a S).set (2 + 4 * i) (a (2 + 4 * i), .inr (1, [.int (h_side (hs_doors (d_deep S i) x)), .int (h_count (hs_doors (d_deep S i) x)), .ref (a (2 + 4 * i + 1)), .ref (a (2 + 4 * i + 2)), .ref (a (2 + 4 * i + 3)), .int (h_doors (hs_doors (d_deep S i) x)), .int (h_fan (hs_doors (d_deep S i) x)), .int (h_warmth (hs_doors (d_deep S i) x)), .int (h_hour (hs_doors (d_deep S i) x)), .int (h_beam (hs_doors (d_deep S i) x)), .int (h_chance (hs_doors (d_deep S i) x)), .int (h_seed (hs_doors (d_deep S i) x))])) = wdD G a (ds_deep S (va_up (d_deep S) i (hs_doors (d_deep S i) x))) := by
  match i, h with
  | 0, _ => rfl
  | 1, _ => rfl
  | 2, _ => rfl
  | 3, _ => rfl
theorem fn_Draughts_deep {i : Nat} : va_nd ([2 + 4 * i, 2 + 4 * i + 1, 2 + 4 * i + 2, 2 + 4 * i + 3]) = true := by
  apply nd_iff
  simp
theorem fg_X_sh_0 {G : GG} {a : Nat → Nat} {S : XT} {i : Nat} (h : i < 8) : (wdX G a S)[36 + 2 * i]? = some (a (36 + 2 * i), .inr (2, [.int (sh_held (x_sh S i)), .int (sh_sort (x_sh S i)), .int (sh_size (x_sh S i)), .int (sh_number (x_sh S i)), .ref (a (36 + 2 * i + 1))])) := by
  match i, h with
  | 0, _ => rfl
  | 1, _ => rfl
  | 2, _ => rfl
  | 3, _ => rfl
  | 4, _ => rfl
  | 5, _ => rfl
  | 6, _ => rfl
  | 7, _ => rfl
theorem fg_X_sh_1 {G : GG} {a : Nat → Nat} {S : XT} {i : Nat} (h : i < 8) : (wdX G a S)[36 + 2 * i + 1]? = some (a (36 + 2 * i + 1), lA G 40 (sh_elements (x_sh S i))) := by
  match i, h with
  | 0, _ => rfl
  | 1, _ => rfl
  | 2, _ => rfl
  | 3, _ => rfl
  | 4, _ => rfl
  | 5, _ => rfl
  | 6, _ => rfl
  | 7, _ => rfl
theorem fc_X_sh {G : GG} {a : Nat → Nat} {S : XT} {i : Nat} (h : i < 8) : ([36 + 2 * i, 36 + 2 * i + 1]).map (fun q => (wdX G a S)[q]?) = (wdS G (fun j => a (36 + 2 * i + j)) (x_sh S i)).map some := by
  match i, h with
  | 0, _ => rfl
  | 1, _ => rfl
  | 2, _ => rfl
  | 3, _ => rfl
  | 4, _ => rfl
  | 5, _ => rfl
  | 6, _ => rfl
  | 7, _ => rfl
theorem fs_X_sh {G : GG} {a : Nat → Nat} {S : XT} {i : Nat} (h : i < 8) (v : ShT) : setm (wdX G a S) ([36 + 2 * i, 36 + 2 * i + 1]) (wdS G (fun j => a (36 + 2 * i + j)) v) = wdX G a (xs_sh S (va_up (x_sh S) i v)) := by
  match i, h with
  | 0, _ => rfl
  | 1, _ => rfl
  | 2, _ => rfl
  | 3, _ => rfl
  | 4, _ => rfl
  | 5, _ => rfl
  | 6, _ => rfl
  | 7, _ => rfl
theorem fp_X_sh_elements {G : GG} {a : Nat → Nat} {S : XT} {i : Nat} (h : i < 8) (x : (Nat → Int64)) : (wdX G a S).set (36 + 2 * i + 1) (a (36 + 2 * i + 1), lA G 40 (sh_elements (shs_elements (x_sh S i) x))) = wdX G a (xs_sh S (va_up (x_sh S) i (shs_elements (x_sh S i) x))) := by
  match i, h with
  | 0, _ => rfl
  | 1, _ => rfl
  | 2, _ => rfl
  | 3, _ => rfl
  | 4, _ => rfl
  | 5, _ => rfl
  | 6, _ => rfl
  | 7, _ => rfl
theorem fn_X_sh {i : Nat} : va_nd ([36 + 2 * i, 36 + 2 * i + 1]) = true := by
  apply nd_iff
  simp
theorem fcm_Hall_L40__now_sh__X {G : GG} {a : Nat → Nat} {S : XT} {i : Nat} (h : i < 8) : ([4, 5, 6, 7, 36 + 2 * i + 1]).map (fun q => (wdX G a S)[q]?) = (wdH G (fun j => a (4 + j)) (x_now S) ++ wdL G (fun j => a (36 + 2 * i + 1 + j)) (sh_elements (x_sh S i))).map some := by
  match i, h with
  | 0, _ => rfl
  | 1, _ => rfl
  | 2, _ => rfl
  | 3, _ => rfl
  | 4, _ => rfl
  | 5, _ => rfl
  | 6, _ => rfl
  | 7, _ => rfl
theorem fnm_Hall_L40__now_sh__X {i : Int32} (h : inb i 8 = true) : va_nd ([4, 5, 6, 7, 36 + 2 * ix i + 1]) = true := by
  apply nd_iff
  simp
  omega
theorem fsm_Hall_L40__now_sh__X' {G : GG} {a : Nat → Nat} {S : XT} {i : Nat} (h : i < 8) (v : HallT) : setm (wdX G a S) ([4, 5, 6, 7, 36 + 2 * i + 1]) (wdH G (fun j => a (4 + j)) v ++ wdL G (fun j => a (36 + 2 * i + 1 + j)) (sh_elements (x_sh S i))) = wdX G a (xs_now S v) := by
  match i, h with
  | 0, _ => rfl
  | 1, _ => rfl
  | 2, _ => rfl
  | 3, _ => rfl
  | 4, _ => rfl
  | 5, _ => rfl
  | 6, _ => rfl
  | 7, _ => rfl
theorem fcm_Hall_L40__trial_sh__X {G : GG} {a : Nat → Nat} {S : XT} {i : Nat} (h : i < 8) : ([12, 13, 14, 15, 36 + 2 * i + 1]).map (fun q => (wdX G a S)[q]?) = (wdH G (fun j => a (12 + j)) (x_trial S) ++ wdL G (fun j => a (36 + 2 * i + 1 + j)) (sh_elements (x_sh S i))).map some := by
  match i, h with
  | 0, _ => rfl
  | 1, _ => rfl
  | 2, _ => rfl
  | 3, _ => rfl
  | 4, _ => rfl
  | 5, _ => rfl
  | 6, _ => rfl
  | 7, _ => rfl
theorem fnm_Hall_L40__trial_sh__X {i : Int32} (h : inb i 8 = true) : va_nd ([12, 13, 14, 15, 36 + 2 * ix i + 1]) = true := by
  apply nd_iff
  simp
  omega
theorem fsm_Hall_L40__trial_sh__X' {G : GG} {a : Nat → Nat} {S : XT} {i : Nat} (h : i < 8) (v : HallT) : setm (wdX G a S) ([12, 13, 14, 15, 36 + 2 * i + 1]) (wdH G (fun j => a (12 + j)) v ++ wdL G (fun j => a (36 + 2 * i + 1 + j)) (sh_elements (x_sh S i))) = wdX G a (xs_trial S v) := by
  match i, h with
  | 0, _ => rfl
  | 1, _ => rfl
  | 2, _ => rfl
  | 3, _ => rfl
  | 4, _ => rfl
  | 5, _ => rfl
  | 6, _ => rfl
  | 7, _ => rfl
theorem fg_Draughts_deep_0_a {G : GG} {a : Nat → Nat} {S : DrT} {r : va_W} {i : Nat} (h : i < 4) : (wdD G a S ++ r)[2 + 4 * i]? = some (a (2 + 4 * i), .inr (1, [.int (h_side (d_deep S i)), .int (h_count (d_deep S i)), .ref (a (2 + 4 * i + 1)), .ref (a (2 + 4 * i + 2)), .ref (a (2 + 4 * i + 3)), .int (h_doors (d_deep S i)), .int (h_fan (d_deep S i)), .int (h_warmth (d_deep S i)), .int (h_hour (d_deep S i)), .int (h_beam (d_deep S i)), .int (h_chance (d_deep S i)), .int (h_seed (d_deep S i))])) := by
  match i, h with
  | 0, _ => rfl
  | 1, _ => rfl
  | 2, _ => rfl
  | 3, _ => rfl
theorem fcm_Hall_Hall__deep_w__Draughts_Hall {G : GG} {a b : Nat → Nat} {S : DrT} {g : HallT} {i : Nat} (h : i < 4) : ([2 + 4 * i, 2 + 4 * i + 1, 2 + 4 * i + 2, 2 + 4 * i + 3, 18, 19, 20, 21]).map (fun q => (wdD G a S ++ wdH G b g)[q]?) = (wdH G (fun j => a (2 + 4 * i + j)) (d_deep S i) ++ wdH G b g).map some := by
  match i, h with
  | 0, _ => rfl
  | 1, _ => rfl
  | 2, _ => rfl
  | 3, _ => rfl
theorem fnm_Hall_Hall__deep_w__Draughts_Hall {i : Int32} (h : inb i 4 = true) : va_nd ([2 + 4 * ix i, 2 + 4 * ix i + 1, 2 + 4 * ix i + 2, 2 + 4 * ix i + 3, 18, 19, 20, 21]) = true := by
  have := inb_lt h
  apply nd_iff
  simp
  omega
theorem fsm_Hall_Hall__deep_w__Draughts_Hall' {G : GG} {a b : Nat → Nat} {S : DrT} {g : HallT} {i : Nat} (h : i < 4) (v : HallT) : setm (wdD G a S ++ wdH G b g) ([2 + 4 * i, 2 + 4 * i + 1, 2 + 4 * i + 2, 2 + 4 * i + 3, 18, 19, 20, 21]) (wdH G (fun j => a (2 + 4 * i + j)) v ++ wdH G b g) = wdD G a (ds_deep S (va_up (d_deep S) i v)) ++ wdH G b g := by
  match i, h with
  | 0, _ => rfl
  | 1, _ => rfl
  | 2, _ => rfl
  | 3, _ => rfl
theorem fcm_Hall_Hall__deep_deep__Draughts {G : GG} {a : Nat → Nat} {S : DrT} {i k : Nat} (h : i < 4) (hk : k < 4) : ([2 + 4 * i, 2 + 4 * i + 1, 2 + 4 * i + 2, 2 + 4 * i + 3, 2 + 4 * k, 2 + 4 * k + 1, 2 + 4 * k + 2, 2 + 4 * k + 3]).map (fun q => (wdD G a S)[q]?) = (wdH G (fun j => a (2 + 4 * i + j)) (d_deep S i) ++ wdH G (fun j => a (2 + 4 * k + j)) (d_deep S k)).map some := by
  match i, k, h, hk with
  | 0, 0, _, _ => rfl
  | 0, 1, _, _ => rfl
  | 0, 2, _, _ => rfl
  | 0, 3, _, _ => rfl
  | 1, 0, _, _ => rfl
  | 1, 1, _, _ => rfl
  | 1, 2, _, _ => rfl
  | 1, 3, _, _ => rfl
  | 2, 0, _, _ => rfl
  | 2, 1, _, _ => rfl
  | 2, 2, _, _ => rfl
  | 2, 3, _, _ => rfl
  | 3, 0, _, _ => rfl
  | 3, 1, _, _ => rfl
  | 3, 2, _, _ => rfl
  | 3, 3, _, _ => rfl
theorem inb_s {p : Int32} {n : Nat} (h1 : inb (p + 1) n = true) (h2 : inb p n = true) (hn : n < 2 ^ 31) : ix (p + 1) = ix p + 1 := by
  obtain ⟨j, hj, rfl⟩ := vp_in_of (inb_vp h2) hn
  have h3 := inb_lt h1
  unfold ix at *
  rw [nI_1, nI_clamp (by omega), nI_clamp (by omega)]
theorem fnm_Hall_Hall__deep_deep__Draughts {p : Int32} (h1 : inb (p + 1) 4 = true) (h2 : inb p 4 = true) : va_nd ([2 + 4 * ix (p + 1), 2 + 4 * ix (p + 1) + 1, 2 + 4 * ix (p + 1) + 2, 2 + 4 * ix (p + 1) + 3, 2 + 4 * ix p, 2 + 4 * ix p + 1, 2 + 4 * ix p + 2, 2 + 4 * ix p + 3]) = true := by
  rw [inb_s h1 h2 (by decide)]
  apply nd_iff
  simp
  omega
theorem fsm_Hall_Hall__deep_deep__Draughts' {G : GG} {a : Nat → Nat} {S : DrT} {i k : Nat} (h : i < 4) (hk : k < 4) (hik : i ≠ k) (v : HallT) : setm (wdD G a S) ([2 + 4 * i, 2 + 4 * i + 1, 2 + 4 * i + 2, 2 + 4 * i + 3, 2 + 4 * k, 2 + 4 * k + 1, 2 + 4 * k + 2, 2 + 4 * k + 3]) (wdH G (fun j => a (2 + 4 * i + j)) v ++ wdH G (fun j => a (2 + 4 * k + j)) (d_deep S k)) = wdD G a (ds_deep S (va_up (d_deep S) i v)) := by
  match i, k, h, hk with
  | 0, 0, _, _ => exact absurd rfl hik
  | 0, 1, _, _ => rfl
  | 0, 2, _, _ => rfl
  | 0, 3, _, _ => rfl
  | 1, 0, _, _ => rfl
  | 1, 1, _, _ => exact absurd rfl hik
  | 1, 2, _, _ => rfl
  | 1, 3, _, _ => rfl
  | 2, 0, _, _ => rfl
  | 2, 1, _, _ => rfl
  | 2, 2, _, _ => exact absurd rfl hik
  | 2, 3, _, _ => rfl
  | 3, 0, _, _ => rfl
  | 3, 1, _, _ => rfl
  | 3, 2, _, _ => rfl
  | 3, 3, _, _ => exact absurd rfl hik
theorem fsm_Hall_Hall__deep_deep__Draughts {G : GG} {a : Nat → Nat} {S : DrT} {p : Int32} (h1 : inb (p + 1) 4 = true) (h2 : inb p 4 = true) (v : HallT) : setm (wdD G a S) ([2 + 4 * ix (p + 1), 2 + 4 * ix (p + 1) + 1, 2 + 4 * ix (p + 1) + 2, 2 + 4 * ix (p + 1) + 3, 2 + 4 * ix p, 2 + 4 * ix p + 1, 2 + 4 * ix p + 2, 2 + 4 * ix p + 3]) (wdH G (fun j => a (2 + 4 * ix (p + 1) + j)) v ++ wdH G (fun j => a (2 + 4 * ix p + j)) (d_deep S (ix p))) = wdD G a (ds_deep S (va_up (d_deep S) (ix (p + 1)) v)) := fsm_Hall_Hall__deep_deep__Draughts' (inb_lt h1) (inb_lt h2) (by rw [inb_s h1 h2 (by decide)]; omega) v
theorem fsm_Hall_Hall__deep_w__Draughts_Hall {G : GG} {a b : Nat → Nat} {S : DrT} {g : HallT} {i : Int32} (h : inb i 4 = true) (v : HallT) : setm (wdD G a S ++ wdH G b g) ([2 + 4 * ix i, 2 + 4 * ix i + 1, 2 + 4 * ix i + 2, 2 + 4 * ix i + 3, 18, 19, 20, 21]) (wdH G (fun j => a (2 + 4 * ix i + j)) v ++ wdH G b g) = wdD G a (ds_deep S (va_up (d_deep S) (ix i) v)) ++ wdH G b g := fsm_Hall_Hall__deep_w__Draughts_Hall' (inb_lt h) v
theorem fcm_DrO_Hall__w_deep__Draughts {G : GG} {a : Nat → Nat} {S : DrT} {i : Nat} (h : i < 4) : ([0, 2 + 4 * i, 2 + 4 * i + 1, 2 + 4 * i + 2, 2 + 4 * i + 3]).map (fun q => (wdD G a S)[q]?) = (wdW G a (d_w S) ++ wdH G (fun j => a (2 + 4 * i + j)) (d_deep S i)).map some := by
  match i, h with
  | 0, _ => rfl
  | 1, _ => rfl
  | 2, _ => rfl
  | 3, _ => rfl
theorem fnm_DrO_Hall__w_deep__Draughts {i : Int32} (h : inb i 4 = true) : va_nd ([0, 2 + 4 * ix i, 2 + 4 * ix i + 1, 2 + 4 * ix i + 2, 2 + 4 * ix i + 3]) = true := by
  apply nd_iff
  simp
  omega
theorem fsm_DrO_Hall__w_deep__Draughts' {G : GG} {a : Nat → Nat} {S : DrT} {i : Nat} (h : i < 4) (v : DwT) : setm (wdD G a S) ([0, 2 + 4 * i, 2 + 4 * i + 1, 2 + 4 * i + 2, 2 + 4 * i + 3]) (wdW G a v ++ wdH G (fun j => a (2 + 4 * i + j)) (d_deep S i)) = wdD G a (ds_w S v) := by
  match i, h with
  | 0, _ => rfl
  | 1, _ => rfl
  | 2, _ => rfl
  | 3, _ => rfl
theorem fsm_DrO_Hall__w_deep__Draughts {G : GG} {a : Nat → Nat} {S : DrT} {i : Int32} (h : inb i 4 = true) (v : DwT) : setm (wdD G a S) ([0, 2 + 4 * ix i, 2 + 4 * ix i + 1, 2 + 4 * ix i + 2, 2 + 4 * ix i + 3]) (wdW G a v ++ wdH G (fun j => a (2 + 4 * ix i + j)) (d_deep S (ix i))) = wdD G a (ds_w S v) := fsm_DrO_Hall__w_deep__Draughts' (inb_lt h) v
theorem fsm_Hall_L40__now_sh__X {G : GG} {a : Nat → Nat} {S : XT} {i : Int32} (h : inb i 8 = true) (v : HallT) : setm (wdX G a S) ([4, 5, 6, 7, 36 + 2 * ix i + 1]) (wdH G (fun j => a (4 + j)) v ++ wdL G (fun j => a (36 + 2 * ix i + 1 + j)) (sh_elements (x_sh S (ix i)))) = wdX G a (xs_now S v) := fsm_Hall_L40__now_sh__X' (inb_lt h) v
theorem fsm_Hall_L40__trial_sh__X {G : GG} {a : Nat → Nat} {S : XT} {i : Int32} (h : inb i 8 = true) (v : HallT) : setm (wdX G a S) ([12, 13, 14, 15, 36 + 2 * ix i + 1]) (wdH G (fun j => a (12 + j)) v ++ wdL G (fun j => a (36 + 2 * ix i + 1 + j)) (sh_elements (x_sh S (ix i)))) = wdX G a (xs_trial S v) := fsm_Hall_L40__trial_sh__X' (inb_lt h) v

