/-! ===== the law: its loop, its start ===== -/
theorem lim {i L : Nat} (hi : i ≤ L) (hL : L ≤ 3072) (h : ¬ nI L - (6 : Int32) < nI i) : i + 6 ≤ L := by
  rcases Nat.lt_or_ge L 6 with q | q
  · exfalso
    apply h
    apply Int32.lt_iff_toInt_lt.mpr
    rw [nI_toInt (show i < 2 ^ 31 by omega)]
    have key : ∀ L, L < 6 → (nI L - (6 : Int32)).toInt < 0 := by decide
    have := key L q
    omega
  · rcases Nat.lt_or_ge L (i + 6) with q2 | q2
    · exfalso
      apply h
      rw [show nI L - (6 : Int32) = nI (L - 6) from pk_sub (a := L) (b := 6) q]
      exact nI_lt (by omega) (by omega)
    · exact q2
theorem law_head {E : VE} {Q : State → Prop} {ws : va_W} {b L x m i : Nat} {xs : Nat → Int32} (C : Ctx E code RL 30 ret) (hn : E.nL = 4) (hX : Scr E b L xs) (hL : L ≤ 3072) (hend : ∀ (ws : va_W) (ls : List (Nat × Value)), V E Q ws 1879 ls []) (h2 : i ≤ L) (k : i + 6 ≤ L → V E Q ws 27 (lls b x m i) []) : V E Q ws 18 (lls b x m i) [] := by
  refine V_pb C hn [(.iload_n 3, 1), (.aload_n 0, 1)] (pc' := 20) (ls' := lls b x m i) (st' := [.ref b, .int (nI i)]) (decB_ok (by decide +kernel)) rfl rfl ?_
  refine V_scrlen C hX (by decide +kernel) ?_
  refine V_pb C hn [(.bipush 6, 2), (.isub, 1)] (pc' := 24) (ls' := lls b x m i) (st' := [.int (nI L - (6 : Int32)), .int (nI i)]) (decB_ok (by decide +kernel)) rfl rfl ?_
  exact V_ic_gt C (off := 1855) (tgt := 1879) (by decide +kernel) (by decide) (o1 := some ()) (o2 := some ()) (out := ()) (by split <;> rfl) (fun _ _ => hend _ _) (fun q _ => k (lim h2 hL q))
theorem law_loop {E : VE} {Q : State → Prop} {b L : Nat} {xs : Nat → Int32} {a a2 : Nat → Nat} (C : Ctx E code RL 30 ret) (hn : E.nL = 4) (hX : Scr E b L xs) (hL : L ≤ 3072) (hend : ∀ (ws : va_W) (ls : List (Nat × Value)), V E Q ws 1879 ls []) : ∀ (r i : Nat) (S : XT) (M : MT), L - i ≤ r → i ≤ L → Rel S M → V E Q (wdX E.G a S ++ wdM E.G a2 M) 18 (lls b (a 0) (a2 0) i) [] := by
  intro r
  induction r with
  | zero =>
    intro i S M h1 h2 hR
    exact law_head C hn hX hL hend h2 (fun hi => by omega)
  | succ r ih =>
    intro i S M h1 h2 hR
    refine law_head C hn hX hL hend h2 (fun hi => ?_)
    refine V_pb C hn [(.aload_n 0, 1), (.iload_n 3, 1)] (pc' := 29) (ls' := lls b (a 0) (a2 0) i) (st' := [.int (nI i), .ref b]) (decB_ok (by decide +kernel)) rfl rfl ?_
    refine V_sld C hX (by decide +kernel) (show i < L by omega) (by omega) ?_
    refine V_pb C hn [(.bipush 63, 2), (.iand, 1)] (pc' := 33) (ls' := lls b (a 0) (a2 0) i) (st' := [.int (xs i &&& (63 : Int32))]) (decB_ok (by decide +kernel)) rfl rfl ?_
    have nx : ∀ S M, Rel S M → V E Q (wdX E.G a S ++ wdM E.G a2 M) 1873 (lls b (a 0) (a2 0) i) [] := fun S M hR => by
      refine V_pb C hn [(.iinc 3 6, 3)] (pc' := 1876) (ls' := [(0, .ref b), (1, .ref (a 0)), (2, .ref (a2 0)), (3, .int (nI i + (6 : Int32)))]) (st' := []) (decB_ok (by decide +kernel)) rfl rfl ?_
      rw [show nI i + (6 : Int32) = nI (i + 6) from nI_add i 6]
      refine V_goto C (off := -1858) (tgt := 18) (by decide +kernel) (by decide) ?_
      exact ih (i + 6) S M (by omega) hi hR
    exact V_tab C (dflt := 1840) (hi := 53) (len := 231) (offs := #[231, 274, 347, 410, 444, 467, 500, 533, 556, 599, 632, 681, 714, 737, 750, 763, 796, 829, 862, 895, 918, 951, 994, 1037, 1070, 1103, 1136, 1169, 1192, 1225, 1248, 1281, 1304, 1337, 1360, 1383, 1416, 1439, 1462, 1495, 1508, 1531, 1554, 1577, 1590, 1613, 1646, 1689, 1722, 1745, 1768, 1791, 1804, 1817]) (by decide +kernel) rfl ⟨1873, by decide, nx S M hR⟩ (law_cases C hn hX hi hL hR nx)
/-! the String constants -/
theorem eq_ref {args : Array Value} {s : State} {t u : Term} {a : Nat} (h : (Cond.eq t u).before args s = true) (h1 : t.eval args s none [] s = some (.ref a)) : u.eval args s none [] s = some (.ref a) := by
  cases hv : u.eval args s none [] s with
  | none => simp [Cond.before, Cond.holds, Cond.value, h1, hv] at h
  | some w =>
    simp only [Cond.before, Cond.holds, Cond.value, h1, hv] at h
    cases w <;> simp_all
def sEnt : List Nat := [32, 41, 52, 58, 79, 81, 83, 85, 87]
def sEnt2 : List Nat := [153, 162, 164, 166, 168, 170, 172, 174, 176]
def sTm (i : Nat) : Term := .string "MotesHaveASeat$Tape" (sEnt.getD i 0)
def sTm2 (i : Nat) : Term := .string "MotesHaveASeatModel" (sEnt2.getD i 0)
def nwC : List Cond := flatC (Jvm.Cond.and given_1 narrow_1)
theorem sc_1 : ∀ i, i < 9 → sLen.getD i 0 < 2 ^ 31 := by decide
theorem sc_2 : ∀ i, i < 9 → Cond.exactly (sTm i) "java/lang/String" ∈ nwC := by decide +kernel
theorem sc_3 : ∀ i, i < 9 → Cond.eq (.field (sTm i) "java/lang/String" "coder" "B") (.int 0) ∈ nwC := by decide +kernel
theorem sc_4 : ∀ i, i < 9 → Cond.arrayOf (.field (sTm i) "java/lang/String" "value" "[B") .byte ∈ nwC := by decide +kernel
theorem sc_5 : ∀ i, i < 9 → Cond.eq (.length (.field (sTm i) "java/lang/String" "value" "[B")) (.int (Int32.ofNat (sLen.getD i 0))) ∈ nwC := by decide +kernel
theorem sc_6 : ∀ i, i < 9 → ∀ j, j < sLen.getD i 0 → Cond.eq (.elem (.field (sTm i) "java/lang/String" "value" "[B") (.int (Int32.ofNat j))) (.int ((sByt.getD i []).getD j 0)) ∈ nwC := by decide +kernel
theorem sc_7 : ∀ i, i < 9 → ∀ j, j < 9 → i ≠ j → Cond.not (Cond.eq (sTm i) (sTm j)) ∈ nwC ∨ Cond.not (Cond.eq (sTm j) (sTm i)) ∈ nwC := by decide +kernel
theorem sc_8 : ∀ i, i < 9 → Cond.eq (sTm i) (sTm2 i) ∈ nwC := by decide +kernel
theorem sc_9 : ∀ i, i < 9 → Cond.stringRef "MotesHaveASeat$Tape" (sEnt.getD i 0) (sTx.getD i "") ∈ lw_tbl := by decide +kernel
theorem sc_10 : ∀ i, i < 9 → Cond.stringRef "MotesHaveASeatModel" (sEnt2.getD i 0) (sTx.getD i "") ∈ lw_tbl := by decide +kernel
theorem strs {b : Nat} {s : State} (hgv : (Jvm.Cond.and given_1 narrow_1).before #[Value.ref b] s = true) (hts : ∀ w ∈ lw_tbl, w.before #[Value.ref b] s = true) : ∃ adK adV : Nat → Nat, ∀ (gg : va_G) (cA : Nat → ClassId), SOk (gg, cA, adK, adV) (fun q : Nat => s.heap.size ≤ q) s := by
  have hs : ∀ w ∈ nwC, w.before #[Value.ref b] s = true := flat_of_before _ hgv
  have hA : ∀ a : Nat, a < s.heap.size → ¬ (fun q : Nat => s.heap.size ≤ q) a := fun a h => Nat.not_le.mpr h
  obtain ⟨adK, adV, h1, h2⟩ := vk_Sof (args := #[Value.ref b]) (s := s) (N := 9) (tm := sTm) (len := sLen) (byt := sByt) (A := fun q : Nat => s.heap.size ≤ q) sc_1 (fun i hi => hs _ (sc_2 i hi)) (fun i hi => hs _ (sc_3 i hi)) (fun i hi => hs _ (sc_4 i hi)) (fun i hi => hs _ (sc_5 i hi)) (fun i hi j hj => hs _ (sc_6 i hi j hj)) (fun i j hi hj hij => (sc_7 i hi j hj hij).imp (hs _) (hs _)) hA
  refine ⟨adK, adV, fun gg cA => ⟨h1, ?_, ?_, ?_⟩⟩
  · have r1 : ∀ i, i < 9 → vk_R "MotesHaveASeat$Tape" (sEnt.getD i 0) (sTx.getD i "") (adK i) s := fun i hi => vk_R.of (hts _ (sc_9 i hi)) (h2 i hi)
    have r2 : ∀ i, i < 9 → vk_R "MotesHaveASeatModel" (sEnt2.getD i 0) (sTx.getD i "") (adK i) s := fun i hi => vk_R.of (hts _ (sc_10 i hi)) (eq_ref (hs _ (sc_8 i hi)) (h2 i hi))
    exact List.forall_mem_cons.mpr ⟨r1 0 (by omega), List.forall_mem_cons.mpr ⟨r1 1 (by omega), List.forall_mem_cons.mpr ⟨r1 2 (by omega), List.forall_mem_cons.mpr ⟨r1 3 (by omega), List.forall_mem_cons.mpr ⟨r1 4 (by omega), List.forall_mem_cons.mpr ⟨r1 5 (by omega), List.forall_mem_cons.mpr ⟨r1 6 (by omega), List.forall_mem_cons.mpr ⟨r1 7 (by omega), List.forall_mem_cons.mpr ⟨r1 8 (by omega), List.forall_mem_cons.mpr ⟨r2 0 (by omega), List.forall_mem_cons.mpr ⟨r2 1 (by omega), List.forall_mem_cons.mpr ⟨r2 2 (by omega), List.forall_mem_cons.mpr ⟨r2 3 (by omega), List.forall_mem_cons.mpr ⟨r2 4 (by omega), List.forall_mem_cons.mpr ⟨r2 5 (by omega), List.forall_mem_cons.mpr ⟨r2 6 (by omega), List.forall_mem_cons.mpr ⟨r2 7 (by omega), List.forall_mem_cons.mpr ⟨r2 8 (by omega), fun _ h => absurd h List.not_mem_nil⟩⟩⟩⟩⟩⟩⟩⟩⟩⟩⟩⟩⟩⟩⟩⟩⟩⟩
  · exact va_Zof (args := #[Value.ref b]) (hts (Cond.laysStatic "java/lang/String" "COMPACT_STRINGS" "Z") (by decide +kernel)) (hts (Cond.initialized "java/lang/String") (by decide +kernel)) (va_eqt (hs (Cond.eq (.static "java/lang/String" "COMPACT_STRINGS" "Z") (.int 1)) (by decide +kernel))) hA
  · exact va_Zqof (args := #[Value.ref b]) (hts (Cond.laysStatic "jdk/internal/util/Preconditions" "SIOOBE_FORMATTER" "Ljava/util/function/BiFunction;") (by decide +kernel)) (hts (Cond.initialized "jdk/internal/util/Preconditions") (by decide +kernel)) (hs (Cond.isRef (.static "jdk/internal/util/Preconditions" "SIOOBE_FORMATTER" "Ljava/util/function/BiFunction;")) (by decide +kernel)) hA
