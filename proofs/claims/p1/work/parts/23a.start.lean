/-! ===== what the start gives: classes, enums, texts, tables ===== -/
def AT : List Cond := flatC (Jvm.Cond.and given_1 narrow_1)
theorem z_inj {C n d : String} {v v' : Value} {A : Nat → Prop} {U : State} {H : Heap} (h : va_Z C n d v A U H) (h' : va_Z C n d v' A U H) : v = v' := by
  obtain ⟨cf, kf, fi, f, a, cell, h1, h2, h3, h4, h5, h6, h7, h8⟩ := h
  obtain ⟨cf', kf', fi', f', a', cell', g1, g2, g3, g4, g5, g6, g7, g8⟩ := h'
  cases h1.symm.trans g1
  cases h4.symm.trans g4
  cases h5.symm.trans g5
  exact Option.some.inj (h7.symm.trans g7)
theorem arr_cl {s : State} {args : Array Value} {ty : FieldType} (hp : ty = .int ∨ ty = .char ∨ ty = .byte ∨ ty = .long ∨ ty = .double) (h : (Cond.arrayClass ty).before args s = true) : ∃ cA, ArrOfT s cA ty ∧ va_RA s cA ty := by
  obtain ⟨c, k, comp, h1, h2, h3⟩ := Cond.arrayClass_spec h
  refine ⟨c, fun n z => ⟨fun k h => (by cases h), k, h2, comp, h3⟩, ?_⟩
  rcases hp with rfl | rfl | rfl | rfl | rfl <;> exact h1
theorem arr_ob {s : State} {args : Array Value} {C : String} (h : (Cond.arrayOver (.object C)).before args s = true) : ∃ cA, ArrOfT s cA (.object C) ∧ va_RA s cA (.object C) := by
  obtain ⟨comp, c, k, h1, h2, h3, h4, h5⟩ := Cond.arrayOver_spec h
  exact ⟨c, fun n z => ⟨fun k h => (by cases h), k, h3, comp, h4⟩, k, comp, h3, h4, h1, h5⟩
theorem el_eq {s : State} {args : Array Value} {t u i : Term} (h : t.eval args s none [] s = u.eval args s none [] s) : (Term.elem t i).eval args s none [] s = (Term.elem u i).eval args s none [] s := by
  simp only [Term.eval, h]
theorem ln_eq {s : State} {args : Array Value} {t u : Term} (h : t.eval args s none [] s = u.eval args s none [] s) : (Term.length t).eval args s none [] s = (Term.length u).eval args s none [] s := by
  simp only [Term.eval, h]
theorem ne_of {s : State} {args : Array Value} {t u : Term} {a b : Nat} (ht : t.eval args s none [] s = some (.ref a)) (hu : u.eval args s none [] s = some (.ref b)) (h : a ≠ b) : (Cond.not (Cond.eq t u)).before args s = true := by
  simp [Cond.before, Cond.holds, Cond.value, ht, hu, h]
theorem en_lay0 : ∀ i, i < 3 → lw_tbl[([126, 391, 457] : List Nat).getD i 0]? = some (Cond.laysStatic "RadioNet$Mode" (nmMode.getD i "") "LRadioNet$Mode;") := by decide +kernel
theorem en_ex0 : ∀ i, i < 3 → AT[([4, 11, 15] : List Nat).getD i 0]? = some (Cond.exactly (.static "RadioNet$Mode" (nmMode.getD i "") "LRadioNet$Mode;") "RadioNet$Mode") := by decide +kernel
theorem en_od0 : ∀ i, i < 3 → AT[([5, 12, 16] : List Nat).getD i 0]? = some (Cond.eq (.field (.static "RadioNet$Mode" (nmMode.getD i "") "LRadioNet$Mode;") "java/lang/Enum" "ordinal" "I") (.int (([0, 1, 2] : List Int32).getD i 0))) := by decide +kernel
theorem en_ne0 : ∀ i, i < 3 → ∀ j, j < 3 → i ≠ j → AT[(([[0, 13, 17], [13, 0, 19], [17, 19, 0]] : List (List Nat)).getD i []).getD j 0]? = some (Cond.not (.eq (.static "RadioNet$Mode" (nmMode.getD i "") "LRadioNet$Mode;") (.static "RadioNet$Mode" (nmMode.getD j "") "LRadioNet$Mode;"))) ∨ AT[(([[0, 13, 17], [13, 0, 19], [17, 19, 0]] : List (List Nat)).getD i []).getD j 0]? = some (Cond.not (.eq (.static "RadioNet$Mode" (nmMode.getD j "") "LRadioNet$Mode;") (.static "RadioNet$Mode" (nmMode.getD i "") "LRadioNet$Mode;"))) := by decide +kernel
theorem en_i0 : lw_tbl[71]? = some (Cond.initialized "RadioNet$Mode") := by decide +kernel
theorem start_en0 {s : State} {args : Array Value} {A : Nat → Prop} (hts : ∀ w ∈ lw_tbl, w.before args s = true) (ha : ∀ w ∈ AT, w.before args s = true) (hA : ∀ a : Nat, a < s.heap.size → ¬ A a) : ∃ ad : Nat → Nat, va_En "RadioNet$Mode" "LRadioNet$Mode;" nmMode (ordF [0, 1, 2]) ad A s s.heap := by
  refine va_Enof (fun i hi => hts _ (List.mem_of_getElem? (en_lay0 i hi))) (hts _ (List.mem_of_getElem? en_i0)) (fun i hi => ha _ (List.mem_of_getElem? (en_ex0 i hi))) ?_ ?_ hA
  · intro q hq i hi
    obtain rfl : q = ("java/lang/Enum", "ordinal", "I", [0, 1, 2]) := List.mem_singleton.mp hq
    exact ha _ (List.mem_of_getElem? (en_od0 i hi))
  · intro i j hi hj hij
    rcases en_ne0 i hi j hj hij with h | h
    · exact Or.inl (ha _ (List.mem_of_getElem? h))
    · exact Or.inr (ha _ (List.mem_of_getElem? h))
theorem en_lay1 : ∀ i, i < 5 → lw_tbl[([570, 751, 560, 566, 568] : List Nat).getD i 0]? = some (Cond.laysStatic "RadioNet$Fault" (nmFault.getD i "") "LRadioNet$Fault;") := by decide +kernel
theorem en_ex1 : ∀ i, i < 5 → AT[([41, 60, 20, 26, 33] : List Nat).getD i 0]? = some (Cond.exactly (.static "RadioNet$Fault" (nmFault.getD i "") "LRadioNet$Fault;") "RadioNet$Fault") := by decide +kernel
theorem en_od1 : ∀ i, i < 5 → AT[([42, 61, 21, 27, 34] : List Nat).getD i 0]? = some (Cond.eq (.field (.static "RadioNet$Fault" (nmFault.getD i "") "LRadioNet$Fault;") "java/lang/Enum" "ordinal" "I") (.int (([0, 1, 2, 3, 4] : List Int32).getD i 0))) := by decide +kernel
theorem en_ne1 : ∀ i, i < 5 → ∀ j, j < 5 → i ≠ j → AT[(([[0, 69, 47, 48, 49], [69, 0, 66, 67, 68], [47, 66, 0, 32, 39], [48, 67, 32, 0, 40], [49, 68, 39, 40, 0]] : List (List Nat)).getD i []).getD j 0]? = some (Cond.not (.eq (.static "RadioNet$Fault" (nmFault.getD i "") "LRadioNet$Fault;") (.static "RadioNet$Fault" (nmFault.getD j "") "LRadioNet$Fault;"))) ∨ AT[(([[0, 69, 47, 48, 49], [69, 0, 66, 67, 68], [47, 66, 0, 32, 39], [48, 67, 32, 0, 40], [49, 68, 39, 40, 0]] : List (List Nat)).getD i []).getD j 0]? = some (Cond.not (.eq (.static "RadioNet$Fault" (nmFault.getD j "") "LRadioNet$Fault;") (.static "RadioNet$Fault" (nmFault.getD i "") "LRadioNet$Fault;"))) := by decide +kernel
theorem en_i1 : lw_tbl[83]? = some (Cond.initialized "RadioNet$Fault") := by decide +kernel
theorem start_en1 {s : State} {args : Array Value} {A : Nat → Prop} (hts : ∀ w ∈ lw_tbl, w.before args s = true) (ha : ∀ w ∈ AT, w.before args s = true) (hA : ∀ a : Nat, a < s.heap.size → ¬ A a) : ∃ ad : Nat → Nat, va_En "RadioNet$Fault" "LRadioNet$Fault;" nmFault (ordF [0, 1, 2, 3, 4]) ad A s s.heap := by
  refine va_Enof (fun i hi => hts _ (List.mem_of_getElem? (en_lay1 i hi))) (hts _ (List.mem_of_getElem? en_i1)) (fun i hi => ha _ (List.mem_of_getElem? (en_ex1 i hi))) ?_ ?_ hA
  · intro q hq i hi
    obtain rfl : q = ("java/lang/Enum", "ordinal", "I", [0, 1, 2, 3, 4]) := List.mem_singleton.mp hq
    exact ha _ (List.mem_of_getElem? (en_od1 i hi))
  · intro i j hi hj hij
    rcases en_ne1 i hi j hj hij with h | h
    · exact Or.inl (ha _ (List.mem_of_getElem? h))
    · exact Or.inr (ha _ (List.mem_of_getElem? h))
theorem en_lay2 : ∀ i, i < 10 → lw_tbl[([2153, 2154, 2155, 2156, 2157, 2158, 2159, 2160, 279, 2161] : List Nat).getD i 0]? = some (Cond.laysStatic "RadioNet$Kind" (nmKind.getD i "") "LRadioNet$Kind;") := by decide +kernel
theorem en_ex2 : ∀ i, i < 10 → AT[([308, 320, 333, 347, 362, 378, 395, 413, 6, 432] : List Nat).getD i 0]? = some (Cond.exactly (.static "RadioNet$Kind" (nmKind.getD i "") "LRadioNet$Kind;") "RadioNet$Kind") := by decide +kernel
theorem en_od2 : ∀ i, i < 10 → AT[([309, 321, 334, 348, 363, 379, 396, 414, 7, 433] : List Nat).getD i 0]? = some (Cond.eq (.field (.static "RadioNet$Kind" (nmKind.getD i "") "LRadioNet$Kind;") "java/lang/Enum" "ordinal" "I") (.int (([0, 1, 2, 3, 4, 5, 6, 7, 8, 9] : List Int32).getD i 0))) := by decide +kernel
theorem en_ne2 : ∀ i, i < 10 → ∀ j, j < 10 → i ≠ j → AT[(([[0, 332, 345, 359, 374, 390, 407, 425, 312, 444], [332, 0, 346, 360, 375, 391, 408, 426, 324, 445], [345, 346, 0, 361, 376, 392, 409, 427, 337, 446], [359, 360, 361, 0, 377, 393, 410, 428, 351, 447], [374, 375, 376, 377, 0, 394, 411, 429, 366, 448], [390, 391, 392, 393, 394, 0, 412, 430, 382, 449], [407, 408, 409, 410, 411, 412, 0, 431, 399, 450], [425, 426, 427, 428, 429, 430, 431, 0, 417, 451], [312, 324, 337, 351, 366, 382, 399, 417, 0, 436], [444, 445, 446, 447, 448, 449, 450, 451, 436, 0]] : List (List Nat)).getD i []).getD j 0]? = some (Cond.not (.eq (.static "RadioNet$Kind" (nmKind.getD i "") "LRadioNet$Kind;") (.static "RadioNet$Kind" (nmKind.getD j "") "LRadioNet$Kind;"))) ∨ AT[(([[0, 332, 345, 359, 374, 390, 407, 425, 312, 444], [332, 0, 346, 360, 375, 391, 408, 426, 324, 445], [345, 346, 0, 361, 376, 392, 409, 427, 337, 446], [359, 360, 361, 0, 377, 393, 410, 428, 351, 447], [374, 375, 376, 377, 0, 394, 411, 429, 366, 448], [390, 391, 392, 393, 394, 0, 412, 430, 382, 449], [407, 408, 409, 410, 411, 412, 0, 431, 399, 450], [425, 426, 427, 428, 429, 430, 431, 0, 417, 451], [312, 324, 337, 351, 366, 382, 399, 417, 0, 436], [444, 445, 446, 447, 448, 449, 450, 451, 436, 0]] : List (List Nat)).getD i []).getD j 0]? = some (Cond.not (.eq (.static "RadioNet$Kind" (nmKind.getD j "") "LRadioNet$Kind;") (.static "RadioNet$Kind" (nmKind.getD i "") "LRadioNet$Kind;"))) := by decide +kernel
theorem en_i2 : lw_tbl[77]? = some (Cond.initialized "RadioNet$Kind") := by decide +kernel
theorem start_en2 {s : State} {args : Array Value} {A : Nat → Prop} (hts : ∀ w ∈ lw_tbl, w.before args s = true) (ha : ∀ w ∈ AT, w.before args s = true) (hA : ∀ a : Nat, a < s.heap.size → ¬ A a) : ∃ ad : Nat → Nat, va_En "RadioNet$Kind" "LRadioNet$Kind;" nmKind (ordF [0, 1, 2, 3, 4, 5, 6, 7, 8, 9]) ad A s s.heap := by
  refine va_Enof (fun i hi => hts _ (List.mem_of_getElem? (en_lay2 i hi))) (hts _ (List.mem_of_getElem? en_i2)) (fun i hi => ha _ (List.mem_of_getElem? (en_ex2 i hi))) ?_ ?_ hA
  · intro q hq i hi
    obtain rfl : q = ("java/lang/Enum", "ordinal", "I", [0, 1, 2, 3, 4, 5, 6, 7, 8, 9]) := List.mem_singleton.mp hq
    exact ha _ (List.mem_of_getElem? (en_od2 i hi))
  · intro i j hi hj hij
    rcases en_ne2 i hi j hj hij with h | h
    · exact Or.inl (ha _ (List.mem_of_getElem? h))
    · exact Or.inr (ha _ (List.mem_of_getElem? h))
abbrev pkT (i : Nat) : Term := .string "RadioNet$Kind" (([58, 64, 67, 70, 73, 76, 79, 82, 85, 88] : List Nat).getD i 0)
theorem pq_n : ∀ i, i < 10 → paLen.getD i 0 < 2 ^ 31 := by decide +kernel
theorem pq_ex : ∀ i, i < 10 → AT[([1296, 1318, 1332, 1345, 1357, 1367, 1377, 1389, 1288, 1400] : List Nat).getD i 0]? = some (Cond.exactly (pkT i) "java/lang/String") := by decide +kernel
theorem pq_co : ∀ i, i < 10 → AT[([1297, 1319, 1333, 1346, 1358, 1368, 1378, 1390, 1289, 1401] : List Nat).getD i 0]? = some (Cond.eq (.field (pkT i) "java/lang/String" "coder" "B") (.int 0)) := by decide +kernel
theorem pq_ar : ∀ i, i < 10 → AT[([1298, 1320, 1334, 1347, 1359, 1369, 1379, 1391, 1290, 1402] : List Nat).getD i 0]? = some (Cond.arrayOf (.field (pkT i) "java/lang/String" "value" "[B") .byte) := by decide +kernel
theorem pq_le : ∀ i, i < 10 → AT[([1299, 1321, 1335, 1348, 1360, 1370, 1380, 1392, 1291, 1403] : List Nat).getD i 0]? = some (Cond.eq (.length (.field (pkT i) "java/lang/String" "value" "[B")) (.int (Int32.ofNat (paLen.getD i 0)))) := by decide +kernel
theorem pq_el : ∀ i, i < 10 → ∀ j, j < paLen.getD i 0 → AT[(([[1300, 1301, 1302, 1303, 1304, 1305, 1306, 1307, 1308, 1309, 1310, 1311, 1312, 1313, 1314, 1315, 1316, 1317], [1322, 1323, 1324, 1325, 1326, 1327, 1328, 1329, 1330, 1331], [1336, 1337, 1338, 1339, 1340, 1341, 1342, 1343, 1344], [1349, 1350, 1351, 1352, 1353, 1354, 1355, 1356], [1361, 1362, 1363, 1364, 1365, 1366], [1371, 1372, 1373, 1374, 1375, 1376], [1381, 1382, 1383, 1384, 1385, 1386, 1387, 1388], [1393, 1394, 1395, 1396, 1397, 1398, 1399], [1292, 1293, 1294, 1295], [1404, 1405, 1406, 1407, 1408, 1409]] : List (List Nat)).getD i []).getD j 0]? = some (Cond.eq (.elem (.field (pkT i) "java/lang/String" "value" "[B") (.int (Int32.ofNat j))) (.int ((paByt.getD i []).getD j 0))) := by decide +kernel
theorem pq_pf : ∀ i, i < 10 → AT[([310, 322, 335, 349, 364, 380, 397, 415, 8, 434] : List Nat).getD i 0]? = some (Cond.eq (.field (.static "RadioNet$Kind" (nmKind.getD i "") "LRadioNet$Kind;") "RadioNet$Kind" "pattern" "Ljava/lang/String;") (pkT i)) := by decide +kernel
theorem pq_dif : ∀ i, i < 10 → ∀ j, j < 10 → i ≠ j → Int32.ofNat (paLen.getD i 0) ≠ Int32.ofNat (paLen.getD j 0) ∨ ∃ k, k < 18 ∧ (k < paLen.getD i 0 ∧ k < paLen.getD j 0 ∧ (paByt.getD i []).getD k 0 ≠ (paByt.getD j []).getD k 0) := by decide +kernel
theorem start_pk {s : State} {args : Array Value} {A : Nat → Prop} (ha : ∀ w ∈ AT, w.before args s = true) (hA : ∀ a : Nat, a < s.heap.size → ¬ A a) : ∃ adK adV : Nat → Nat, vk_S 10 paLen paByt adK adV A s s.heap ∧ ∀ i : Nat, i < 10 → (pkT i).eval args s none [] s = some (.ref (adK i)) := by
  refine vk_Sof pq_n (fun i hi => ha _ (List.mem_of_getElem? (pq_ex i hi))) (fun i hi => ha _ (List.mem_of_getElem? (pq_co i hi))) (fun i hi => ha _ (List.mem_of_getElem? (pq_ar i hi))) (fun i hi => ha _ (List.mem_of_getElem? (pq_le i hi))) (fun i hi j hj => ha _ (List.mem_of_getElem? (pq_el i hi j hj))) ?_ hA
  intro i j hi hj hij
  left
  obtain ⟨a, -, -, -, e1, -⟩ := Cond.exactly_spec (ha _ (List.mem_of_getElem? (pq_ex i hi)))
  obtain ⟨b, -, -, -, e2, -⟩ := Cond.exactly_spec (ha _ (List.mem_of_getElem? (pq_ex j hj)))
  refine ne_of e1 e2 (fun hab => ?_)
  subst hab
  have ef : (Term.field (pkT i) "java/lang/String" "value" "[B").eval args s none [] s = (Term.field (pkT j) "java/lang/String" "value" "[B").eval args s none [] s := by rw [va_fe e1, va_fe e2]
  rcases pq_dif i hi j hj hij with h | ⟨k, -, h1, h2, h3⟩
  · have g1 := va_eqv (ha _ (List.mem_of_getElem? (pq_le i hi))) (v := .int (Int32.ofNat (paLen.getD i 0))) rfl
    have g2 := va_eqv (ha _ (List.mem_of_getElem? (pq_le j hj))) (v := .int (Int32.ofNat (paLen.getD j 0))) rfl
    rw [ln_eq ef, g2] at g1
    exact h (Value.int.inj (Option.some.inj g1)).symm
  · have g1 := va_eqv (ha _ (List.mem_of_getElem? (pq_el i hi k h1))) (v := .int ((paByt.getD i []).getD k 0)) rfl
    have g2 := va_eqv (ha _ (List.mem_of_getElem? (pq_el j hj k h2))) (v := .int ((paByt.getD j []).getD k 0)) rfl
    rw [el_eq ef, g2] at g1
    exact h3 (Value.int.inj (Option.some.inj g1)).symm
theorem swk_el : ∀ j, j < 10 → AT[([298, 299, 300, 301, 302, 303, 304, 305, 306, 307] : List Nat).getD j 0]? = some (Cond.eq (.elem (.static "RadioNet$1" "$SwitchMap$RadioNet$Kind" "[I") (.int (Int32.ofNat j))) (.int (swK.getD j 0))) := by decide +kernel
theorem swk_ar : AT[296]? = some (Cond.arrayOf (.static "RadioNet$1" "$SwitchMap$RadioNet$Kind" "[I") .int) := by decide +kernel
theorem swk_le : AT[297]? = some (Cond.eq (.length (.static "RadioNet$1" "$SwitchMap$RadioNet$Kind" "[I")) (.int (Int32.ofNat 10))) := by decide +kernel
theorem swk_la : lw_tbl[1524]? = some (Cond.laysStatic "RadioNet$1" "$SwitchMap$RadioNet$Kind" "[I") := by decide +kernel
theorem swk_in : lw_tbl[84]? = some (Cond.initialized "RadioNet$1") := by decide +kernel
theorem start_swk {s : State} {args : Array Value} {A : Nat → Prop} (hts : ∀ w ∈ lw_tbl, w.before args s = true) (ha : ∀ w ∈ AT, w.before args s = true) (hA : ∀ a : Nat, a < s.heap.size → ¬ A a) : ∃ t : Nat, va_Z "RadioNet$1" "$SwitchMap$RadioNet$Kind" "[I" (.ref t) A s s.heap ∧ va_T .int t 10 (fun j => .int (swK.getD j 0)) A s s.heap := by
  obtain ⟨t, h1, h2⟩ := va_Tof (N := 10) (f := fun j => .int (swK.getD j 0)) (A := A) (by decide) (ha _ (List.mem_of_getElem? swk_ar)) (va_eqv (ha _ (List.mem_of_getElem? swk_le)) rfl) (fun j hj => va_eqv (ha _ (List.mem_of_getElem? (swk_el j hj))) rfl) hA
  exact ⟨t, va_Zref (hts _ (List.mem_of_getElem? swk_la)) (hts _ (List.mem_of_getElem? swk_in)) h1 hA, h2⟩
theorem swf_el : ∀ j, j < 5 → AT[([53, 54, 55, 56, 57] : List Nat).getD j 0]? = some (Cond.eq (.elem (.static "RadioNet$1" "$SwitchMap$RadioNet$Fault" "[I") (.int (Int32.ofNat j))) (.int (swF.getD j 0))) := by decide +kernel
theorem swf_ar : AT[51]? = some (Cond.arrayOf (.static "RadioNet$1" "$SwitchMap$RadioNet$Fault" "[I") .int) := by decide +kernel
theorem swf_le : AT[52]? = some (Cond.eq (.length (.static "RadioNet$1" "$SwitchMap$RadioNet$Fault" "[I")) (.int (Int32.ofNat 5))) := by decide +kernel
theorem swf_la : lw_tbl[575]? = some (Cond.laysStatic "RadioNet$1" "$SwitchMap$RadioNet$Fault" "[I") := by decide +kernel
theorem swf_in : lw_tbl[84]? = some (Cond.initialized "RadioNet$1") := by decide +kernel
theorem start_swf {s : State} {args : Array Value} {A : Nat → Prop} (hts : ∀ w ∈ lw_tbl, w.before args s = true) (ha : ∀ w ∈ AT, w.before args s = true) (hA : ∀ a : Nat, a < s.heap.size → ¬ A a) : ∃ t : Nat, va_Z "RadioNet$1" "$SwitchMap$RadioNet$Fault" "[I" (.ref t) A s s.heap ∧ va_T .int t 5 (fun j => .int (swF.getD j 0)) A s s.heap := by
  obtain ⟨t, h1, h2⟩ := va_Tof (N := 5) (f := fun j => .int (swF.getD j 0)) (A := A) (by decide) (ha _ (List.mem_of_getElem? swf_ar)) (va_eqv (ha _ (List.mem_of_getElem? swf_le)) rfl) (fun j hj => va_eqv (ha _ (List.mem_of_getElem? (swf_el j hj))) rfl) hA
  exact ⟨t, va_Zref (hts _ (List.mem_of_getElem? swf_la)) (hts _ (List.mem_of_getElem? swf_in)) h1 hA, h2⟩
theorem dig1_el : ∀ j, j < 100 → AT[([77, 78, 79, 80, 81, 82, 83, 84, 85, 86, 87, 88, 89, 90, 91, 92, 93, 94, 95, 96, 97, 98, 99, 100, 101, 102, 103, 104, 105, 106, 107, 108, 109, 110, 111, 112, 113, 114, 115, 116, 117, 118, 119, 120, 121, 122, 123, 124, 125, 126, 127, 128, 129, 130, 131, 132, 133, 134, 135, 136, 137, 138, 139, 140, 141, 142, 143, 144, 145, 146, 147, 148, 149, 150, 151, 152, 153, 154, 155, 156, 157, 158, 159, 160, 161, 162, 163, 164, 165, 166, 167, 168, 169, 170, 171, 172, 173, 174, 175, 176] : List Nat).getD j 0]? = some (Cond.eq (.elem (.static "java/lang/Integer" "DigitOnes" "[B") (.int (Int32.ofNat j))) (.int (nI (48 + j % 10)))) := by decide +kernel
theorem dig1_ar : AT[75]? = some (Cond.arrayOf (.static "java/lang/Integer" "DigitOnes" "[B") .byte) := by decide +kernel
theorem dig1_le : AT[76]? = some (Cond.eq (.length (.static "java/lang/Integer" "DigitOnes" "[B")) (.int (Int32.ofNat 100))) := by decide +kernel
theorem dig1_la : lw_tbl[1274]? = some (Cond.laysStatic "java/lang/Integer" "DigitOnes" "[B") := by decide +kernel
theorem dig1_in : lw_tbl[96]? = some (Cond.initialized "java/lang/Integer") := by decide +kernel
theorem start_dig1 {s : State} {args : Array Value} {A : Nat → Prop} (hts : ∀ w ∈ lw_tbl, w.before args s = true) (ha : ∀ w ∈ AT, w.before args s = true) (hA : ∀ a : Nat, a < s.heap.size → ¬ A a) : ∃ t : Nat, va_Z "java/lang/Integer" "DigitOnes" "[B" (.ref t) A s s.heap ∧ va_T .byte t 100 (fun j => .int (nI (48 + j % 10))) A s s.heap := by
  obtain ⟨t, h1, h2⟩ := va_Tof (N := 100) (f := fun j => .int (nI (48 + j % 10))) (A := A) (by decide) (ha _ (List.mem_of_getElem? dig1_ar)) (va_eqv (ha _ (List.mem_of_getElem? dig1_le)) rfl) (fun j hj => va_eqv (ha _ (List.mem_of_getElem? (dig1_el j hj))) rfl) hA
  exact ⟨t, va_Zref (hts _ (List.mem_of_getElem? dig1_la)) (hts _ (List.mem_of_getElem? dig1_in)) h1 hA, h2⟩
theorem dig2_el : ∀ j, j < 100 → AT[([180, 181, 182, 183, 184, 185, 186, 187, 188, 189, 190, 191, 192, 193, 194, 195, 196, 197, 198, 199, 200, 201, 202, 203, 204, 205, 206, 207, 208, 209, 210, 211, 212, 213, 214, 215, 216, 217, 218, 219, 220, 221, 222, 223, 224, 225, 226, 227, 228, 229, 230, 231, 232, 233, 234, 235, 236, 237, 238, 239, 240, 241, 242, 243, 244, 245, 246, 247, 248, 249, 250, 251, 252, 253, 254, 255, 256, 257, 258, 259, 260, 261, 262, 263, 264, 265, 266, 267, 268, 269, 270, 271, 272, 273, 274, 275, 276, 277, 278, 279] : List Nat).getD j 0]? = some (Cond.eq (.elem (.static "java/lang/Integer" "DigitTens" "[B") (.int (Int32.ofNat j))) (.int (nI (48 + j / 10)))) := by decide +kernel
theorem dig2_ar : AT[178]? = some (Cond.arrayOf (.static "java/lang/Integer" "DigitTens" "[B") .byte) := by decide +kernel
theorem dig2_le : AT[179]? = some (Cond.eq (.length (.static "java/lang/Integer" "DigitTens" "[B")) (.int (Int32.ofNat 100))) := by decide +kernel
theorem dig2_la : lw_tbl[1276]? = some (Cond.laysStatic "java/lang/Integer" "DigitTens" "[B") := by decide +kernel
theorem dig2_in : lw_tbl[96]? = some (Cond.initialized "java/lang/Integer") := by decide +kernel
theorem start_dig2 {s : State} {args : Array Value} {A : Nat → Prop} (hts : ∀ w ∈ lw_tbl, w.before args s = true) (ha : ∀ w ∈ AT, w.before args s = true) (hA : ∀ a : Nat, a < s.heap.size → ¬ A a) : ∃ t : Nat, va_Z "java/lang/Integer" "DigitTens" "[B" (.ref t) A s s.heap ∧ va_T .byte t 100 (fun j => .int (nI (48 + j / 10))) A s s.heap := by
  obtain ⟨t, h1, h2⟩ := va_Tof (N := 100) (f := fun j => .int (nI (48 + j / 10))) (A := A) (by decide) (ha _ (List.mem_of_getElem? dig2_ar)) (va_eqv (ha _ (List.mem_of_getElem? dig2_le)) rfl) (fun j hj => va_eqv (ha _ (List.mem_of_getElem? (dig2_el j hj))) rfl) hA
  exact ⟨t, va_Zref (hts _ (List.mem_of_getElem? dig2_la)) (hts _ (List.mem_of_getElem? dig2_in)) h1 hA, h2⟩
theorem kin_el : ∀ j, j < 10 → AT[([285, 286, 287, 288, 289, 290, 291, 292, 293, 294] : List Nat).getD j 0]? = some (Cond.eq (.elem (.static "RadioNet" "KINDS" "[LRadioNet$Kind;") (.int (Int32.ofNat j))) (.static "RadioNet$Kind" (nmKind.getD j "") "LRadioNet$Kind;")) := by decide +kernel
theorem kin_ar : AT[282]? = some (Cond.arrayOf (.static "RadioNet" "KINDS" "[LRadioNet$Kind;") (.object "RadioNet$Kind")) := by decide +kernel
theorem kin_le : AT[283]? = some (Cond.eq (.length (.static "RadioNet" "KINDS" "[LRadioNet$Kind;")) (.int (Int32.ofNat 10))) := by decide +kernel
theorem kin_la : lw_tbl[1467]? = some (Cond.laysStatic "RadioNet" "KINDS" "[LRadioNet$Kind;") := by decide +kernel
theorem kin_in : lw_tbl[67]? = some (Cond.initialized "RadioNet") := by decide +kernel
theorem start_kin {s : State} {args : Array Value} {A : Nat → Prop} (hts : ∀ w ∈ lw_tbl, w.before args s = true) (ha : ∀ w ∈ AT, w.before args s = true) (hA : ∀ a : Nat, a < s.heap.size → ¬ A a) (ad : Nat → Nat) (hev : ∀ i, i < 10 → (Term.static "RadioNet$Kind" (nmKind.getD i "") "LRadioNet$Kind;").eval args s none [] s = some (.ref (ad i))) : ∃ t : Nat, va_Z "RadioNet" "KINDS" "[LRadioNet$Kind;" (.ref t) A s s.heap ∧ va_T (.object "RadioNet$Kind") t 10 (fun j => .ref (ad j)) A s s.heap := by
  obtain ⟨t, h1, h2⟩ := va_Tof (N := 10) (f := fun j => .ref (ad j)) (A := A) (by decide) (ha _ (List.mem_of_getElem? kin_ar)) (va_eqv (ha _ (List.mem_of_getElem? kin_le)) rfl) (fun j hj => va_eqv (ha _ (List.mem_of_getElem? (kin_el j hj))) (hev j hj)) hA
  exact ⟨t, va_Zref (hts _ (List.mem_of_getElem? kin_la)) (hts _ (List.mem_of_getElem? kin_in)) h1 hA, h2⟩
theorem st_lus : lw_tbl[609]? = some (Cond.laysStatic "java/lang/Throwable" "UNASSIGNED_STACK" "[Ljava/lang/StackTraceElement;") := by decide +kernel
theorem st_ius : lw_tbl[85]? = some (Cond.initialized "java/lang/Throwable") := by decide +kernel
theorem st_aus : AT[58]? = some (Cond.isRef (.static "java/lang/Throwable" "UNASSIGNED_STACK" "[Ljava/lang/StackTraceElement;")) := by decide +kernel
theorem st_lss : lw_tbl[611]? = some (Cond.laysStatic "java/lang/Throwable" "SUPPRESSED_SENTINEL" "Ljava/util/List;") := by decide +kernel
theorem st_iss : lw_tbl[85]? = some (Cond.initialized "java/lang/Throwable") := by decide +kernel
theorem st_ass : AT[59]? = some (Cond.isRef (.static "java/lang/Throwable" "SUPPRESSED_SENTINEL" "Ljava/util/List;")) := by decide +kernel
theorem st_lsi : lw_tbl[1204]? = some (Cond.laysStatic "jdk/internal/util/Preconditions" "SIOOBE_FORMATTER" "Ljava/util/function/BiFunction;") := by decide +kernel
theorem st_isi : lw_tbl[102]? = some (Cond.initialized "jdk/internal/util/Preconditions") := by decide +kernel
theorem st_asi : AT[70]? = some (Cond.isRef (.static "jdk/internal/util/Preconditions" "SIOOBE_FORMATTER" "Ljava/util/function/BiFunction;")) := by decide +kernel
theorem st_lcs : lw_tbl[320]? = some (Cond.laysStatic "java/lang/String" "COMPACT_STRINGS" "Z") := by decide +kernel
theorem st_ics : lw_tbl[80]? = some (Cond.initialized "java/lang/String") := by decide +kernel
theorem st_acs : AT[10]? = some (Cond.eq (.static "java/lang/String" "COMPACT_STRINGS" "Z") (.int 1)) := by decide +kernel
theorem st_ao : ∀ C ∈ aoC, Cond.arrayOver (.object C) ∈ lw_tbl := by
  intro C hC
  simp only [List.mem_cons, List.not_mem_nil, or_false] at hC
  rcases hC with rfl | rfl | rfl
  · exact List.mem_of_getElem? (i := 119) (by decide +kernel)
  · exact List.mem_of_getElem? (i := 239) (by decide +kernel)
  · exact List.mem_of_getElem? (i := 272) (by decide +kernel)
theorem st_nc : ∀ q ∈ ncP, Cond.not (.castable q.1 q.2) ∈ AT := by
  intro q hq
  simp only [List.mem_cons, List.not_mem_nil, or_false] at hq
  rcases hq with rfl | rfl | rfl | rfl | rfl | rfl
  · exact List.mem_of_getElem? (i := 466) (by decide +kernel)
  · exact List.mem_of_getElem? (i := 467) (by decide +kernel)
  · exact List.mem_of_getElem? (i := 488) (by decide +kernel)
  · exact List.mem_of_getElem? (i := 528) (by decide +kernel)
  · exact List.mem_of_getElem? (i := 530) (by decide +kernel)
  · exact List.mem_of_getElem? (i := 531) (by decide +kernel)
def stX (w : Cond) : Bool := match w with
  | .stringRef own k _ => ([642, 672, 703, 741, 774, 807, 823, 851, 877, 897, 927, 953, 978, 995, 1026, 1033, 1047, 1063, 1068, 1098, 1119, 1141, 1170, 1190, 1218, 1239, 1266, 1288, 1296, 1318, 1332, 1345, 1357, 1367, 1377, 1389, 1400] : List Nat).any (fun i => decide (AT[i]? = some (Cond.exactly (.string own k) "java/lang/String")))
  | _ => true
theorem st_tx : lw_tbl.all stX = true := by decide +kernel
theorem start_tx {s : State} {args : Array Value} (hts : ∀ w ∈ lw_tbl, w.before args s = true) (ha : ∀ w ∈ AT, w.before args s = true) (own : String) (k : Nat) (tx : String) (h : Cond.stringRef own k tx ∈ lw_tbl) : ∃ a, vk_R own k tx a s := by
  have h1 := List.all_eq_true.mp st_tx _ h
  obtain ⟨i, -, h2⟩ := List.any_eq_true.mp (show ([642, 672, 703, 741, 774, 807, 823, 851, 877, 897, 927, 953, 978, 995, 1026, 1033, 1047, 1063, 1068, 1098, 1119, 1141, 1170, 1190, 1218, 1239, 1266, 1288, 1296, 1318, 1332, 1345, 1357, 1367, 1377, 1389, 1400] : List Nat).any (fun i => decide (AT[i]? = some (Cond.exactly (.string own k) "java/lang/String"))) = true from h1)
  have h3 := of_decide_eq_true h2
  obtain ⟨a, -, -, -, e1, -⟩ := Cond.exactly_spec (ha _ (List.mem_of_getElem? h3))
  exact ⟨a, vk_R.of (hts _ h) e1⟩
theorem ui_J0 : lw_tbl[733]? = some (Cond.instantiable RJ0 4) := by decide +kernel
theorem ut_J0 : ∀ w ∈ u_ws RJ0 TJ0 4, w ∈ lw_tbl := by
  intro w hw
  have e : u_ws RJ0 TJ0 4 = ([734, 736, 1343, 1345] : List Nat).filterMap (fun i => lw_tbl[i]?) := by decide +kernel
  rw [e] at hw
  obtain ⟨i, -, hi⟩ := List.mem_filterMap.mp hw
  exact List.mem_of_getElem? hi
theorem ui_J4 : lw_tbl[311]? = some (Cond.instantiable RJ4 4) := by decide +kernel
theorem ut_J4 : ∀ w ∈ u_ws RJ4 TJ4 4, w ∈ lw_tbl := by
  intro w hw
  have e : u_ws RJ4 TJ4 4 = ([333, 335, 337, 339] : List Nat).filterMap (fun i => lw_tbl[i]?) := by decide +kernel
  rw [e] at hw
  obtain ⟨i, -, hi⟩ := List.mem_filterMap.mp hw
  exact List.mem_of_getElem? hi
theorem ui_Jx00060 : lw_tbl[718]? = some (Cond.instantiable RJx00060 6) := by decide +kernel
theorem ut_Jx00060 : ∀ w ∈ u_ws RJx00060 TJx00060 6, w ∈ lw_tbl := by
  intro w hw
  have e : u_ws RJx00060 TJx00060 6 = ([722, 723, 724, 725, 726, 727] : List Nat).filterMap (fun i => lw_tbl[i]?) := by decide +kernel
  rw [e] at hw
  obtain ⟨i, -, hi⟩ := List.mem_filterMap.mp hw
  exact List.mem_of_getElem? hi
theorem ui_Jx7c733 : lw_tbl[1137]? = some (Cond.instantiable RJx7c733 6) := by decide +kernel
theorem ut_Jx7c733 : ∀ w ∈ u_ws RJx7c733 TJx7c733 6, w ∈ lw_tbl := by
  intro w hw
  have e : u_ws RJx7c733 TJx7c733 6 = ([1349, 1350, 1351, 1352, 1353, 1354] : List Nat).filterMap (fun i => lw_tbl[i]?) := by decide +kernel
  rw [e] at hw
  obtain ⟨i, -, hi⟩ := List.mem_filterMap.mp hw
  exact List.mem_of_getElem? hi
theorem ui_X1 : lw_tbl[273]? = some (Cond.instantiable RX1 3) := by decide +kernel
theorem ut_X1 : ∀ w ∈ u_ws RX1 TX1 3, w ∈ lw_tbl := by
  intro w hw
  have e : u_ws RX1 TX1 3 = ([283, 285, 287] : List Nat).filterMap (fun i => lw_tbl[i]?) := by decide +kernel
  rw [e] at hw
  obtain ⟨i, -, hi⟩ := List.mem_filterMap.mp hw
  exact List.mem_of_getElem? hi
theorem ui_X3 : lw_tbl[233]? = some (Cond.instantiable RX3 3) := by decide +kernel
theorem ut_X3 : ∀ w ∈ u_ws RX3 TX3 3, w ∈ lw_tbl := by
  intro w hw
  have e : u_ws RX3 TX3 3 = ([245, 247, 249] : List Nat).filterMap (fun i => lw_tbl[i]?) := by decide +kernel
  rw [e] at hw
  obtain ⟨i, -, hi⟩ := List.mem_filterMap.mp hw
  exact List.mem_of_getElem? hi
theorem ui_X6 : lw_tbl[113]? = some (Cond.instantiable RX6 7) := by decide +kernel
theorem ut_X6 : ∀ w ∈ u_ws RX6 TX6 7, w ∈ lw_tbl := by
  intro w hw
  have e : u_ws RX6 TX6 7 = ([217, 219, 221, 223, 225, 227, 229] : List Nat).filterMap (fun i => lw_tbl[i]?) := by decide +kernel
  rw [e] at hw
  obtain ⟨i, -, hi⟩ := List.mem_filterMap.mp hw
  exact List.mem_of_getElem? hi
theorem ui_X7 : lw_tbl[266]? = some (Cond.instantiable RX7 5) := by decide +kernel
theorem ut_X7 : ∀ w ∈ u_ws RX7 TX7 5, w ∈ lw_tbl := by
  intro w hw
  have e : u_ws RX7 TX7 5 = ([299, 301, 303, 305, 307] : List Nat).filterMap (fun i => lw_tbl[i]?) := by decide +kernel
  rw [e] at hw
  obtain ⟨i, -, hi⟩ := List.mem_filterMap.mp hw
  exact List.mem_of_getElem? hi
theorem ui_X8 : lw_tbl[253]? = some (Cond.instantiable RX8 2) := by decide +kernel
theorem ut_X8 : ∀ w ∈ u_ws RX8 TX8 2, w ∈ lw_tbl := by
  intro w hw
  have e : u_ws RX8 TX8 2 = ([260, 262] : List Nat).filterMap (fun i => lw_tbl[i]?) := by decide +kernel
  rw [e] at hw
  obtain ⟨i, -, hi⟩ := List.mem_filterMap.mp hw
  exact List.mem_of_getElem? hi
theorem ui_X9 : lw_tbl[120]? = some (Cond.instantiable RX9 10) := by decide +kernel
theorem ut_X9 : ∀ w ∈ u_ws RX9 TX9 10, w ∈ lw_tbl := by
  intro w hw
  have e : u_ws RX9 TX9 10 = ([156, 158, 160, 162, 164, 166, 168, 170, 172, 174] : List Nat).filterMap (fun i => lw_tbl[i]?) := by decide +kernel
  rw [e] at hw
  obtain ⟨i, -, hi⟩ := List.mem_filterMap.mp hw
  exact List.mem_of_getElem? hi
theorem ui_X10 : lw_tbl[178]? = some (Cond.instantiable RX10 4) := by decide +kernel
theorem ut_X10 : ∀ w ∈ u_ws RX10 TX10 4, w ∈ lw_tbl := by
  intro w hw
  have e : u_ws RX10 TX10 4 = ([191, 193, 195, 197] : List Nat).filterMap (fun i => lw_tbl[i]?) := by decide +kernel
  rw [e] at hw
  obtain ⟨i, -, hi⟩ := List.mem_filterMap.mp hw
  exact List.mem_of_getElem? hi
theorem ui_X11 : lw_tbl[105]? = some (Cond.instantiable RX11 10) := by decide +kernel
theorem ut_X11 : ∀ w ∈ u_ws RX11 TX11 10, w ∈ lw_tbl := by
  intro w hw
  have e : u_ws RX11 TX11 10 = ([353, 355, 357, 359, 361, 363, 365, 367, 369, 371] : List Nat).filterMap (fun i => lw_tbl[i]?) := by decide +kernel
  rw [e] at hw
  obtain ⟨i, -, hi⟩ := List.mem_filterMap.mp hw
  exact List.mem_of_getElem? hi
theorem ui_X12 : lw_tbl[1590]? = some (Cond.instantiable RX12 20) := by decide +kernel
theorem ut_X12 : ∀ w ∈ u_ws RX12 TX12 20, w ∈ lw_tbl := by
  intro w hw
  have e : u_ws RX12 TX12 20 = ([1615, 1617, 1619, 1621, 1623, 1625, 1627, 1629, 1631, 1633, 1635, 1637, 1639, 1641, 1643, 1645, 1647, 1649, 1651, 1653] : List Nat).filterMap (fun i => lw_tbl[i]?) := by decide +kernel
  rw [e] at hw
  obtain ⟨i, -, hi⟩ := List.mem_filterMap.mp hw
  exact List.mem_of_getElem? hi
theorem start_cl {s : State} {args : Array Value} (hts : ∀ w ∈ lw_tbl, w.before args s = true) : ∃ D : va_G, ∀ (c : Nat) (q : vw_C), vwCl[c]? = some q → u_Kn s q.1 q.2.1 q.2.2 (D.1 c) (D.2 c) := by
  have h1 : ∀ c : Nat, ∃ d : ClassId × (Nat → Nat), ∀ q : vw_C, vwCl[c]? = some q → u_Kn s q.1 q.2.1 q.2.2 d.1 d.2 := by
    intro c
    cases e : vwCl[c]? with
    | none => exact ⟨(0, fun _ => 0), fun q h => by cases h⟩
    | some q =>
      have h2 : ∃ d : ClassId × (Nat → Nat), u_Kn s q.1 q.2.1 q.2.2 d.1 d.2 := by
        match c, e with
        | 0, e => cases e; obtain ⟨c, i, h⟩ := u_known (n := 4) hts ut_J0 (hts _ (List.mem_of_getElem? ui_J0)); exact ⟨(c, i), h⟩
        | 1, e => cases e; obtain ⟨c, i, h⟩ := u_known (n := 4) hts ut_J4 (hts _ (List.mem_of_getElem? ui_J4)); exact ⟨(c, i), h⟩
        | 2, e => cases e; obtain ⟨c, i, h⟩ := u_known (n := 6) hts ut_Jx00060 (hts _ (List.mem_of_getElem? ui_Jx00060)); exact ⟨(c, i), h⟩
        | 3, e => cases e; obtain ⟨c, i, h⟩ := u_known (n := 6) hts ut_Jx7c733 (hts _ (List.mem_of_getElem? ui_Jx7c733)); exact ⟨(c, i), h⟩
        | 4, e => cases e; obtain ⟨c, i, h⟩ := u_known (n := 3) hts ut_X1 (hts _ (List.mem_of_getElem? ui_X1)); exact ⟨(c, i), h⟩
        | 5, e => cases e; obtain ⟨c, i, h⟩ := u_known (n := 3) hts ut_X3 (hts _ (List.mem_of_getElem? ui_X3)); exact ⟨(c, i), h⟩
        | 6, e => cases e; obtain ⟨c, i, h⟩ := u_known (n := 7) hts ut_X6 (hts _ (List.mem_of_getElem? ui_X6)); exact ⟨(c, i), h⟩
        | 7, e => cases e; obtain ⟨c, i, h⟩ := u_known (n := 5) hts ut_X7 (hts _ (List.mem_of_getElem? ui_X7)); exact ⟨(c, i), h⟩
        | 8, e => cases e; obtain ⟨c, i, h⟩ := u_known (n := 2) hts ut_X8 (hts _ (List.mem_of_getElem? ui_X8)); exact ⟨(c, i), h⟩
        | 9, e => cases e; obtain ⟨c, i, h⟩ := u_known (n := 10) hts ut_X9 (hts _ (List.mem_of_getElem? ui_X9)); exact ⟨(c, i), h⟩
        | 10, e => cases e; obtain ⟨c, i, h⟩ := u_known (n := 4) hts ut_X10 (hts _ (List.mem_of_getElem? ui_X10)); exact ⟨(c, i), h⟩
        | 11, e => cases e; obtain ⟨c, i, h⟩ := u_known (n := 10) hts ut_X11 (hts _ (List.mem_of_getElem? ui_X11)); exact ⟨(c, i), h⟩
        | 12, e => cases e; obtain ⟨c, i, h⟩ := u_known (n := 20) hts ut_X12 (hts _ (List.mem_of_getElem? ui_X12)); exact ⟨(c, i), h⟩
        | k + 13, e => exact absurd (List.getElem?_eq_some_iff.mp e).1 (by show ¬ k + 13 < 13; omega)
      obtain ⟨d, h3⟩ := h2
      exact ⟨d, fun q' h => by cases h; exact h3⟩
  exact ⟨(fun c => (Classical.choose (h1 c)).1, fun c => (Classical.choose (h1 c)).2), fun c q hq => Classical.choose_spec (h1 c) q hq⟩
abbrev tyL : List FieldType := [.int, .char, (.object "RadioNet$Station"), (.object "RadioNet$Net"), (.object "RadioNet$Command"), .byte, .long, .double]
theorem start_ar {s : State} {args : Array Value} (hts : ∀ w ∈ lw_tbl, w.before args s = true) : ∃ d : Nat → ClassId, ∀ (k : Nat) (t : FieldType), tyL[k]? = some t → ArrOfT s (d k) t ∧ va_RA s (d k) t := by
  have h1 : ∀ k : Nat, ∃ c : ClassId, ∀ t : FieldType, tyL[k]? = some t → ArrOfT s c t ∧ va_RA s c t := by
    intro k
    cases e : tyL[k]? with
    | none => exact ⟨0, fun t h => by cases h⟩
    | some t =>
      have h2 : ∃ c : ClassId, ArrOfT s c t ∧ va_RA s c t := by
        match k, e with
        | 0, e => cases e; exact arr_cl (by simp) (hts _ (List.mem_of_getElem? (i := 200) (by decide +kernel)))
        | 1, e => cases e; exact arr_cl (by simp) (hts _ (List.mem_of_getElem? (i := 290) (by decide +kernel)))
        | 2, e => cases e; exact arr_ob (hts _ (st_ao _ (by simp)))
        | 3, e => cases e; exact arr_ob (hts _ (st_ao _ (by simp)))
        | 4, e => cases e; exact arr_ob (hts _ (st_ao _ (by simp)))
        | 5, e => cases e; exact arr_cl (by simp) (hts _ (List.mem_of_getElem? (i := 342) (by decide +kernel)))
        | 6, e => cases e; exact arr_cl (by simp) (hts _ (List.mem_of_getElem? (i := 2110) (by decide +kernel)))
        | 7, e => cases e; exact arr_cl (by simp) (hts _ (List.mem_of_getElem? (i := 2111) (by decide +kernel)))
        | k + 8, e => exact absurd (List.getElem?_eq_some_iff.mp e).1 (by show ¬ k + 8 < 8; omega)
      obtain ⟨c, h3⟩ := h2
      exact ⟨c, fun t' h => by cases h; exact h3⟩
  exact ⟨fun k => Classical.choose (h1 k), fun k t hk => Classical.choose_spec (h1 k) t hk⟩
theorem start_EV {s : State} {args : Array Value} (hts : ∀ w ∈ lw_tbl, w.before args s = true) (hgv : (Jvm.Cond.and given_1 narrow_1).before args s = true) : ∃ E : EP, EV E s.heap.size s s.heap := by
  have ha : ∀ w ∈ AT, w.before args s = true := flat_of_before _ hgv
  have hA : ∀ a : Nat, a < s.heap.size → ¬ (fun q => s.heap.size ≤ q) a := fun a h z => Nat.lt_irrefl _ (Nat.lt_of_lt_of_le h z)
  obtain ⟨D, hD⟩ := start_cl hts
  obtain ⟨d, hd⟩ := start_ar hts
  obtain ⟨a0, h0⟩ := start_en0 hts ha hA
  obtain ⟨a1, h1⟩ := start_en1 hts ha hA
  obtain ⟨a2, h2⟩ := start_en2 hts ha hA
  obtain ⟨aK, aV, hS, hSe⟩ := start_pk ha hA
  have hev : ∀ i, i < 10 → (Term.static "RadioNet$Kind" (nmKind.getD i "") "LRadioNet$Kind;").eval args s none [] s = some (.ref (a2 i)) := by
    intro i hi
    obtain ⟨a, -, -, -, e1, -⟩ := Cond.exactly_spec (ha _ (List.mem_of_getElem? (en_ex2 i hi)))
    have z1 := va_Zref (hts _ (List.mem_of_getElem? (en_lay2 i hi))) (hts _ (List.mem_of_getElem? en_i2)) e1 hA
    have z2 := z_inj z1 (h2.1 i hi).1
    have z3 : a = a2 i := Value.ref.inj z2
    rw [← z3]
    exact e1
  obtain ⟨t0, k0, k0'⟩ := start_kin hts ha hA a2 hev
  obtain ⟨t1, k1, k1'⟩ := start_swk hts ha hA
  obtain ⟨t2, k2, k2'⟩ := start_swf hts ha hA
  obtain ⟨t3, k3, k3'⟩ := start_dig1 hts ha hA
  obtain ⟨t4, k4, k4'⟩ := start_dig2 hts ha hA
  have hPf := va_Efof (v := fun i => .ref (aK i)) (A := fun q => s.heap.size ≤ q) hev (fun i hi => ha _ (List.mem_of_getElem? (pq_pf i hi))) hSe hA
  refine ⟨(D, d, fun j i => if j = 0 then a0 i else if j = 1 then a1 i else if j = 2 then a2 i else if j = 3 then (if i = 0 then t0 else if i = 1 then t1 else if i = 2 then t2 else if i = 3 then t3 else t4) else if j = 4 then aK i else aV i), ⟨hD, ?_⟩, h0, h1, h2, ?_, ?_⟩
  · intro k q hk
    have hk2 : tyL[k]? = some q.2 := by
      have h9 : ((tysE (D, d, fun _ _ => 0)).map (fun z => z.2))[k]? = some q.2 := by
        rw [List.getElem?_map]
        exact congrArg (Option.map (fun z => z.2)) hk
      exact h9
    have hk1 : q.1 = d k := by
      have hlt : k < 8 := (List.getElem?_eq_some_iff.mp hk).1
      rcases (show k = 0 ∨ k = 1 ∨ k = 2 ∨ k = 3 ∨ k = 4 ∨ k = 5 ∨ k = 6 ∨ k = 7 by omega) with rfl | rfl | rfl | rfl | rfl | rfl | rfl | rfl <;> cases hk <;> rfl
    rw [hk1]
    exact hd k q.2 hk2
  · intro w hw hn
    exact va_Nw.of (nest_tab hn) (hts w hw)
  · refine ⟨vx_Zqof (hts _ (List.mem_of_getElem? st_lus)) (hts _ (List.mem_of_getElem? st_ius)) (ha _ (List.mem_of_getElem? st_aus)) hA, vx_Zqof (hts _ (List.mem_of_getElem? st_lss)) (hts _ (List.mem_of_getElem? st_iss)) (ha _ (List.mem_of_getElem? st_ass)) hA, start_tx hts ha, k0, k0', k1, k1', k2, k2', hPf, hS, va_Zof (hts _ (List.mem_of_getElem? st_lcs)) (hts _ (List.mem_of_getElem? st_ics)) (va_eqi (ha _ (List.mem_of_getElem? st_acs))) hA, k3, k3', k4, k4', va_Zqof (hts _ (List.mem_of_getElem? st_lsi)) (hts _ (List.mem_of_getElem? st_isi)) (ha _ (List.mem_of_getElem? st_asi)) hA, fun C hC => va_AO.of (hts _ (st_ao C hC)), fun q hq => va_Nc.of (ha _ (st_nc q hq))⟩
