/-! ===== String constants: length and charAt ===== -/
def sLn (i : Nat) : Int32 := Int32.ofNat (sLen.getD i 0)
def sCh (i j : Nat) : Int32 := (sByt.getD i []).getD j 0
section VSt
variable {E : VE} {Q : State → Prop} {ws ws' : va_W} {pc : Nat} {ls ls' : List (Nat × Value)} {st st' : List Value} {cc : ByteArray} {own : String} {kk : Nat} {ret : Option FieldType} {O : Type} {o o1 o2 : Option O} {out : O}
theorem V_slen (C : Ctx E cc own kk ret) {idx : Nat} {rest st0 : List Value} {i : Nat} (hd : decode cc pc = .ok (.invokevirtual idx, 3)) (hlk : Cond.methodLink own idx yJ0_length_8abf5 ∈ T0) (hi : i < 9) (hst : st0 = .ref (E.G.adK i) :: rest) (hk : 2 ≤ kk) (hroom : (rest.map fun v => v.category).sum ≤ 8) (k : V E Q ws (pc + 3) ls (.int (sLn i) :: rest)) : V E Q ws pc ls st0 := sorry
theorem V_sch (C : Ctx E cc own kk ret) {idx : Nat} {rest st0 : List Value} {i : Nat} {j : Int32} (hd : decode cc pc = .ok (.invokevirtual idx, 3)) (hlk : Cond.methodLink own idx yJ0_charAt_5068e ∈ T0) (hi : i < 9) (h : gd (inb j (sLen.getD i 0)) o = some out) (hst : st0 = .int j :: .ref (E.G.adK i) :: rest) (hk : 2 ≤ kk) (hroom : (rest.map fun v => v.category).sum ≤ 8) (k : o = some out → V E Q ws (pc + 3) ls (.int (sCh i (ix j)) :: rest)) : V E Q ws pc ls st0 := sorry
end VSt
