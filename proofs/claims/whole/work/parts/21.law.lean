/-! THE CLAIM OUT OF ONE WALK OF THE LAW'S BODY. Your part is whole_start (and what it stands on); all else here is the same for every law, but numbers. -/
def R_law : String := "ScripthouseLaw"
def lw_P (b : Addr) (xs : List Int32) (args : Array Value) (s : State) : Prop := args = #[.ref b] ∧ s.IntsAt b xs ∧ xs.length ≤ 3072 ∧ (Jvm.Cond.and given_1 narrow_1).before args s = true
def lw_Q (_ : Array Value) (s : State) (o : Outcome) (t : State) : Prop := o = .returned (some (.int 1)) ∧ Framed s o t [] 661869 7110496
def lw_Z (below : List Frame) (a : Array Value) (s : State) : State → Prop := fun t => ∃ o, t.status = .running ∧ Ended t below o ∧ lw_Q a s o t
/-- the law's own end, with 1 on the stack, nothing written that was there before, its room as the claim has it -/
theorem lw_ret {p : Program} {l : Launch} {e : Env} {s : State} {m : MethodId} {below : List Frame} {meth : Method} {c : Code} {b : Nat} (hx : p.tables.exec = Jvm.exec) (hb : c.code = code) (hr : meth.sig.returnType = ret) (hlocks : meth.locks = false) {pc : Nat} {H : Heap} {ls : Array Slot} (hdg : decode code pc = .ok (.ireturn, 1)) : W p l e room_1 s m #[Value.ref b] below meth c H [] 661869 7110496 (lw_Z below #[Value.ref b] s) (F0 m pc ls [.int 1]) := by
  intro T hT X
  obtain ⟨fs, hret, hrun, hended, hW, hframe⟩ := X.leave (v := some (.int 1)) (hlocks := hlocks) (fun h => by rw [hr] at h; cases h)
  have hmeth' : T.vm.method? m = some meth := X.method'
  refine ⟨T.setFrames fs, ?_, .returned (some (.int 1)), hrun, hended, rfl, ⟨_, rfl⟩, hW, hframe⟩
  jvm_step X.here [X.here.top, hx, hb, hdg, hmeth', hr, ret, narrow_b1]
  (try refine ⟨rfl, ?_⟩); (try refine ⟨rfl, ?_⟩)
  first | (intro acts; rw [hret _ acts rfl rfl rfl]) | rw [hret _ _ rfl rfl rfl]
  exact Steps.refl _
/-- what holds at the law's entry: the machine, the code, the tables' words (any of lw_tbl by 'hts w (by decide +kernel)'), the script of L ints xs at the cell b, what the Statement gives of the start (any of its parts by flat_of_before) -/
def lw_At (p : Program) (s : State) (m : MethodId) (meth : Method) (c : Code) (b L : Nat) (xs : Nat → Int32) : Prop :=
  p.tables.exec = Jvm.exec ∧ c.code = code ∧ meth.sig.returnType = ret ∧ c.maxLocals = 7 ∧ s.vm.findClass R_law = some m.cls ∧ (∀ w ∈ lw_tbl, w.before #[Value.ref b] s = true) ∧ va_X b L xs s s.heap ∧ b < s.heap.size ∧ meth.locks = false ∧ (Jvm.Cond.and given_1 narrow_1).before #[Value.ref b] s = true
/-! The law's body. -/
theorem lg_cmp_self (x : Int64) : lg_cmp x x = 0 := by simp [lg_cmp, Int64.lt_irrefl]
def LC (p : Program) (l : Launch) (s : State) (m : MethodId) (meth : Method) (c : Code) (D : va_G) (q q2 : Nat → Nat) (o : Nat) (cA cL : ClassId) (b L : Nat) (xs : Nat → Int32) : Prop :=
  p.tables.exec = Jvm.exec ∧ c.code = code ∧ meth.sig.returnType = ret ∧ meth.locks = false ∧ c.maxLocals = 7 ∧ s.vm.findClass RL = some m.cls ∧ (∀ w ∈ wALL, w.before #[Value.ref b] s = true) ∧ va_K D vwCl [(cA, .int), (cL, .long)] s ∧ NWs s ∧ ZZ (fun q => s.heap.size ≤ q) s ∧ va_X b L xs s s.heap ∧ b < s.heap.size ∧ (∀ (τ σ : SS) (f : Nat → Int64), va_D (fun q => s.heap.size ≤ q) (WR q2 cA τ ++ (WO o cL f ++ WC q cA σ))) ∧ l.stackTraces = false
abbrev LW (p : Program) (l : Launch) (e : Env) (s : State) (m : MethodId) (below : List Frame) (meth : Method) (c : Code) (D : va_G) (q q2 : Nat → Nat) (o : Nat) (cA cL : ClassId) (b cells slots : Nat) (σ τ : SS) (f : Nat → Int64) (pc : Nat) (x4 : Int32) : Prop :=
  WW p l e room_1 s m #[Value.ref b] below meth c D vwCl (fun q => s.heap.size ≤ q) 7 cells slots (lw_Z below #[Value.ref b] s) (WR q2 cA τ ++ (WO o cL f ++ WC q cA σ)) pc [(0, .ref b), (1, .ref (q 0)), (2, .ref (q2 0)), (3, .ref o), (4, .int x4)] []
theorem kw_469 : Cond.methodLink RL 77 yL_addScene ∈ wALL := tk2 (i := 81) rfl rfl
theorem kw_470 : Cond.static yL_addScene ∈ wALL := tk2 (i := 82) rfl rfl
theorem kw_471 : Cond.initialized RL ∈ wALL := tk1 (i := 0) rfl rfl
theorem kw_472 : Cond.methodLink RL 82 yX5_addScene ∈ wALL := tk4 (i := 35) rfl rfl
theorem kw_473 : Cond.instanceMethod yX5_addScene ∈ wALL := tk4 (i := 36) rfl rfl
theorem kw_474 : Cond.selects RX5 yX5_addScene yX5_addScene ∈ wALL := tk4 (i := 37) rfl rfl
theorem kw_475 : Cond.code yX5_addScene cX5_addScene 7 (some .int) ∈ wALL := tk4 (i := 38) rfl rfl
theorem kw_476 : Cond.methodLink RL 83 yX5_thrown ∈ wALL := tk4 (i := 31) rfl rfl
theorem kw_477 : Cond.instanceMethod yX5_thrown ∈ wALL := tk4 (i := 32) rfl rfl
theorem kw_478 : Cond.selects RX5 yX5_thrown yX5_thrown ∈ wALL := tk4 (i := 33) rfl rfl
theorem kw_479 : Cond.code yX5_thrown cX5_thrown 1 (some .int) ∈ wALL := tk4 (i := 34) rfl rfl
theorem kw_480 : Cond.methodLink RL 86 yL_setOut ∈ wALL := tk2 (i := 181) rfl rfl
theorem kw_481 : Cond.static yL_setOut ∈ wALL := tk2 (i := 182) rfl rfl
theorem kw_482 : Cond.methodLink RL 89 yX5_setOut ∈ wALL := tk4 (i := 45) rfl rfl
theorem kw_483 : Cond.instanceMethod yX5_setOut ∈ wALL := tk4 (i := 46) rfl rfl
theorem kw_484 : Cond.selects RX5 yX5_setOut yX5_setOut ∈ wALL := tk4 (i := 47) rfl rfl
theorem kw_485 : Cond.code yX5_setOut cX5_setOut 4 (some .boolean) ∈ wALL := tk4 (i := 48) rfl rfl
theorem kw_486 : Cond.methodLink RL 90 yL_setChild ∈ wALL := tk2 (i := 206) rfl rfl
theorem kw_487 : Cond.static yL_setChild ∈ wALL := tk2 (i := 207) rfl rfl
theorem kw_488 : Cond.methodLink RL 92 yX5_setChild ∈ wALL := tk4 (i := 49) rfl rfl
theorem kw_489 : Cond.instanceMethod yX5_setChild ∈ wALL := tk4 (i := 50) rfl rfl
theorem kw_490 : Cond.selects RX5 yX5_setChild yX5_setChild ∈ wALL := tk4 (i := 51) rfl rfl
theorem kw_491 : Cond.code yX5_setChild cX5_setChild 4 (some .boolean) ∈ wALL := tk4 (i := 52) rfl rfl
theorem kw_492 : Cond.methodLink RL 93 yL_setRates ∈ wALL := tk2 (i := 213) rfl rfl
theorem kw_493 : Cond.static yL_setRates ∈ wALL := tk2 (i := 214) rfl rfl
theorem kw_494 : Cond.methodLink RL 96 yX5_setRates ∈ wALL := tk4 (i := 56) rfl rfl
theorem kw_495 : Cond.instanceMethod yX5_setRates ∈ wALL := tk4 (i := 57) rfl rfl
theorem kw_496 : Cond.selects RX5 yX5_setRates yX5_setRates ∈ wALL := tk4 (i := 58) rfl rfl
theorem kw_497 : Cond.code yX5_setRates cX5_setRates 4 (some .int) ∈ wALL := tk4 (i := 59) rfl rfl
theorem kw_498 : Cond.methodLink RL 97 yX4_hold ∈ wALL := tk1 (i := 191) rfl rfl
theorem kw_499 : Cond.instanceMethod yX4_hold ∈ wALL := tk1 (i := 192) rfl rfl
theorem kw_500 : Cond.selects RX4 yX4_hold yX4_hold ∈ wALL := tk1 (i := 193) rfl rfl
theorem kw_501 : Cond.code yX4_hold cX4_hold 3 (some .boolean) ∈ wALL := tk1 (i := 194) rfl rfl
theorem kw_502 : Cond.methodLink RL 101 yX5_hold ∈ wALL := tk4 (i := 60) rfl rfl
theorem kw_503 : Cond.instanceMethod yX5_hold ∈ wALL := tk4 (i := 61) rfl rfl
theorem kw_504 : Cond.selects RX5 yX5_hold yX5_hold ∈ wALL := tk4 (i := 62) rfl rfl
theorem kw_505 : Cond.code yX5_hold cX5_hold 3 (some .boolean) ∈ wALL := tk4 (i := 63) rfl rfl
theorem kw_506 : Cond.methodLink RL 102 yL_shoot ∈ wALL := tk2 (i := 220) rfl rfl
theorem kw_507 : Cond.static yL_shoot ∈ wALL := tk2 (i := 221) rfl rfl
theorem kw_508 : Cond.methodLink RL 105 yX5_shoot ∈ wALL := tk4 (i := 64) rfl rfl
theorem kw_509 : Cond.instanceMethod yX5_shoot ∈ wALL := tk4 (i := 65) rfl rfl
theorem kw_510 : Cond.selects RX5 yX5_shoot yX5_shoot ∈ wALL := tk4 (i := 66) rfl rfl
theorem kw_511 : Cond.code yX5_shoot cX5_shoot 7 (some .int) ∈ wALL := tk4 (i := 67) rfl rfl
theorem kw_512 : Cond.methodLink RL 106 yL_approve ∈ wALL := tk3 (i := 29) rfl rfl
theorem kw_513 : Cond.static yL_approve ∈ wALL := tk3 (i := 30) rfl rfl
theorem kw_514 : Cond.methodLink RL 108 yX5_approve ∈ wALL := tk4 (i := 109) rfl rfl
theorem kw_515 : Cond.instanceMethod yX5_approve ∈ wALL := tk4 (i := 110) rfl rfl
theorem kw_516 : Cond.selects RX5 yX5_approve yX5_approve ∈ wALL := tk4 (i := 111) rfl rfl
theorem kw_517 : Cond.code yX5_approve cX5_approve 3 (some .int) ∈ wALL := tk4 (i := 112) rfl rfl
theorem kw_518 : Cond.methodLink RL 109 yL_grant ∈ wALL := tk3 (i := 38) rfl rfl
theorem kw_519 : Cond.static yL_grant ∈ wALL := tk3 (i := 39) rfl rfl
theorem kw_520 : Cond.methodLink RL 112 yX5_grant ∈ wALL := tk4 (i := 117) rfl rfl
theorem kw_521 : Cond.instanceMethod yX5_grant ∈ wALL := tk4 (i := 118) rfl rfl
theorem kw_522 : Cond.selects RX5 yX5_grant yX5_grant ∈ wALL := tk4 (i := 119) rfl rfl
theorem kw_523 : Cond.code yX5_grant cX5_grant 2 (some .int) ∈ wALL := tk4 (i := 120) rfl rfl
theorem kw_524 : Cond.methodLink RL 113 yL_bill ∈ wALL := tk3 (i := 45) rfl rfl
theorem kw_525 : Cond.static yL_bill ∈ wALL := tk3 (i := 46) rfl rfl
theorem kw_526 : Cond.methodLink RL 115 yX5_bill ∈ wALL := tk4 (i := 121) rfl rfl
theorem kw_527 : Cond.instanceMethod yX5_bill ∈ wALL := tk4 (i := 122) rfl rfl
theorem kw_528 : Cond.selects RX5 yX5_bill yX5_bill ∈ wALL := tk4 (i := 123) rfl rfl
theorem kw_529 : Cond.code yX5_bill cX5_bill 4 (some .int) ∈ wALL := tk4 (i := 124) rfl rfl
theorem kw_530 : Cond.methodLink RL 116 yL_loan ∈ wALL := tk3 (i := 52) rfl rfl
theorem kw_531 : Cond.static yL_loan ∈ wALL := tk3 (i := 53) rfl rfl
theorem kw_532 : Cond.methodLink RL 118 yX5_loan ∈ wALL := tk4 (i := 125) rfl rfl
theorem kw_533 : Cond.instanceMethod yX5_loan ∈ wALL := tk4 (i := 126) rfl rfl
theorem kw_534 : Cond.selects RX5 yX5_loan yX5_loan ∈ wALL := tk4 (i := 127) rfl rfl
theorem kw_535 : Cond.code yX5_loan cX5_loan 3 (some .int) ∈ wALL := tk4 (i := 128) rfl rfl
theorem kw_536 : Cond.methodLink RL 119 yL_part ∈ wALL := tk3 (i := 64) rfl rfl
theorem kw_537 : Cond.static yL_part ∈ wALL := tk3 (i := 65) rfl rfl
theorem kw_538 : Cond.methodLink RL 122 yX5_part ∈ wALL := tk4 (i := 129) rfl rfl
theorem kw_539 : Cond.instanceMethod yX5_part ∈ wALL := tk4 (i := 130) rfl rfl
theorem kw_540 : Cond.selects RX5 yX5_part yX5_part ∈ wALL := tk4 (i := 131) rfl rfl
theorem kw_541 : Cond.code yX5_part cX5_part 7 (some .int) ∈ wALL := tk4 (i := 132) rfl rfl
theorem kw_542 : Cond.methodLink RL 123 yL_income ∈ wALL := tk3 (i := 80) rfl rfl
theorem kw_543 : Cond.static yL_income ∈ wALL := tk3 (i := 81) rfl rfl
theorem kw_544 : Cond.methodLink RL 125 yX5_income ∈ wALL := tk4 (i := 133) rfl rfl
theorem kw_545 : Cond.instanceMethod yX5_income ∈ wALL := tk4 (i := 134) rfl rfl
theorem kw_546 : Cond.selects RX5 yX5_income yX5_income ∈ wALL := tk4 (i := 135) rfl rfl
theorem kw_547 : Cond.code yX5_income cX5_income 6 (some .int) ∈ wALL := tk4 (i := 136) rfl rfl
theorem kw_548 : Cond.methodLink RL 126 yX4_today ∈ wALL := tk1 (i := 195) rfl rfl
theorem kw_549 : Cond.instanceMethod yX4_today ∈ wALL := tk1 (i := 196) rfl rfl
theorem kw_550 : Cond.selects RX4 yX4_today yX4_today ∈ wALL := tk1 (i := 197) rfl rfl
theorem kw_551 : Cond.code yX4_today cX4_today 1 (some .int) ∈ wALL := tk1 (i := 198) rfl rfl
theorem kw_552 : Cond.methodLink RL 129 yX5_today ∈ wALL := tk4 (i := 137) rfl rfl
theorem kw_553 : Cond.instanceMethod yX5_today ∈ wALL := tk4 (i := 138) rfl rfl
theorem kw_554 : Cond.selects RX5 yX5_today yX5_today ∈ wALL := tk4 (i := 139) rfl rfl
theorem kw_555 : Cond.code yX5_today cX5_today 1 (some .int) ∈ wALL := tk4 (i := 140) rfl rfl
theorem kw_556 : Cond.methodLink RL 130 yX4_shot ∈ wALL := tk1 (i := 199) rfl rfl
theorem kw_557 : Cond.instanceMethod yX4_shot ∈ wALL := tk1 (i := 200) rfl rfl
theorem kw_558 : Cond.selects RX4 yX4_shot yX4_shot ∈ wALL := tk1 (i := 201) rfl rfl
theorem kw_559 : Cond.code yX4_shot cX4_shot 1 (some .int) ∈ wALL := tk1 (i := 202) rfl rfl
theorem kw_560 : Cond.methodLink RL 133 yX5_shot ∈ wALL := tk4 (i := 141) rfl rfl
theorem kw_561 : Cond.instanceMethod yX5_shot ∈ wALL := tk4 (i := 142) rfl rfl
theorem kw_562 : Cond.selects RX5 yX5_shot yX5_shot ∈ wALL := tk4 (i := 143) rfl rfl
theorem kw_563 : Cond.code yX5_shot cX5_shot 1 (some .int) ∈ wALL := tk4 (i := 144) rfl rfl
theorem kw_564 : Cond.methodLink RL 134 yX4_days ∈ wALL := tk1 (i := 203) rfl rfl
theorem kw_565 : Cond.instanceMethod yX4_days ∈ wALL := tk1 (i := 204) rfl rfl
theorem kw_566 : Cond.selects RX4 yX4_days yX4_days ∈ wALL := tk1 (i := 205) rfl rfl
theorem kw_567 : Cond.code yX4_days cX4_days 1 (some .int) ∈ wALL := tk1 (i := 206) rfl rfl
theorem kw_568 : Cond.methodLink RL 137 yX5_days ∈ wALL := tk4 (i := 145) rfl rfl
theorem kw_569 : Cond.instanceMethod yX5_days ∈ wALL := tk4 (i := 146) rfl rfl
theorem kw_570 : Cond.selects RX5 yX5_days yX5_days ∈ wALL := tk4 (i := 147) rfl rfl
theorem kw_571 : Cond.code yX5_days cX5_days 1 (some .int) ∈ wALL := tk4 (i := 148) rfl rfl
theorem kw_572 : Cond.methodLink RL 138 yL_daysByAll ∈ wALL := tk3 (i := 105) rfl rfl
theorem kw_573 : Cond.static yL_daysByAll ∈ wALL := tk3 (i := 106) rfl rfl
theorem kw_574 : Cond.methodLink RL 141 yX5_daysByAll ∈ wALL := tk4 (i := 149) rfl rfl
theorem kw_575 : Cond.instanceMethod yX5_daysByAll ∈ wALL := tk4 (i := 150) rfl rfl
theorem kw_576 : Cond.selects RX5 yX5_daysByAll yX5_daysByAll ∈ wALL := tk4 (i := 151) rfl rfl
theorem kw_577 : Cond.code yX5_daysByAll cX5_daysByAll 1 (some .int) ∈ wALL := tk4 (i := 152) rfl rfl
theorem kw_578 : Cond.methodLink RL 142 yL_planned ∈ wALL := tk3 (i := 121) rfl rfl
theorem kw_579 : Cond.static yL_planned ∈ wALL := tk3 (i := 122) rfl rfl
theorem kw_580 : Cond.methodLink RL 144 yX5_planned ∈ wALL := tk4 (i := 153) rfl rfl
theorem kw_581 : Cond.instanceMethod yX5_planned ∈ wALL := tk4 (i := 154) rfl rfl
theorem kw_582 : Cond.selects RX5 yX5_planned yX5_planned ∈ wALL := tk4 (i := 155) rfl rfl
theorem kw_583 : Cond.code yX5_planned cX5_planned 2 (some .int) ∈ wALL := tk4 (i := 156) rfl rfl
theorem kw_584 : Cond.methodLink RL 145 yL_begins ∈ wALL := tk3 (i := 128) rfl rfl
theorem kw_585 : Cond.static yL_begins ∈ wALL := tk3 (i := 129) rfl rfl
theorem kw_586 : Cond.methodLink RL 147 yX5_begins ∈ wALL := tk4 (i := 157) rfl rfl
theorem kw_587 : Cond.instanceMethod yX5_begins ∈ wALL := tk4 (i := 158) rfl rfl
theorem kw_588 : Cond.selects RX5 yX5_begins yX5_begins ∈ wALL := tk4 (i := 159) rfl rfl
theorem kw_589 : Cond.code yX5_begins cX5_begins 4 (some .int) ∈ wALL := tk4 (i := 160) rfl rfl
theorem kw_590 : Cond.methodLink RL 148 yL_left ∈ wALL := tk3 (i := 135) rfl rfl
theorem kw_591 : Cond.static yL_left ∈ wALL := tk3 (i := 136) rfl rfl
theorem kw_592 : Cond.methodLink RL 150 yX5_left ∈ wALL := tk4 (i := 161) rfl rfl
theorem kw_593 : Cond.instanceMethod yX5_left ∈ wALL := tk4 (i := 162) rfl rfl
theorem kw_594 : Cond.selects RX5 yX5_left yX5_left ∈ wALL := tk4 (i := 163) rfl rfl
theorem kw_595 : Cond.code yX5_left cX5_left 2 (some .int) ∈ wALL := tk4 (i := 164) rfl rfl
theorem kw_596 : Cond.methodLink RL 151 yX4_fee ∈ wALL := tk2 (i := 65) rfl rfl
theorem kw_597 : Cond.instanceMethod yX4_fee ∈ wALL := tk2 (i := 66) rfl rfl
theorem kw_598 : Cond.selects RX4 yX4_fee yX4_fee ∈ wALL := tk2 (i := 67) rfl rfl
theorem kw_599 : Cond.code yX4_fee cX4_fee 1 (some .int) ∈ wALL := tk2 (i := 68) rfl rfl
theorem kw_600 : Cond.methodLink RL 154 yX5_fee ∈ wALL := tk4 (i := 169) rfl rfl
theorem kw_601 : Cond.instanceMethod yX5_fee ∈ wALL := tk4 (i := 170) rfl rfl
theorem kw_602 : Cond.selects RX5 yX5_fee yX5_fee ∈ wALL := tk4 (i := 171) rfl rfl
theorem kw_603 : Cond.code yX5_fee cX5_fee 1 (some .int) ∈ wALL := tk4 (i := 172) rfl rfl
theorem kw_604 : Cond.methodLink RL 155 yX4_costs ∈ wALL := tk2 (i := 69) rfl rfl
theorem kw_605 : Cond.instanceMethod yX4_costs ∈ wALL := tk2 (i := 70) rfl rfl
theorem kw_606 : Cond.selects RX4 yX4_costs yX4_costs ∈ wALL := tk2 (i := 71) rfl rfl
theorem kw_607 : Cond.code yX4_costs cX4_costs 1 (some .int) ∈ wALL := tk2 (i := 72) rfl rfl
theorem kw_608 : Cond.methodLink RL 158 yX5_costs ∈ wALL := tk4 (i := 173) rfl rfl
theorem kw_609 : Cond.instanceMethod yX5_costs ∈ wALL := tk4 (i := 174) rfl rfl
theorem kw_610 : Cond.selects RX5 yX5_costs yX5_costs ∈ wALL := tk4 (i := 175) rfl rfl
theorem kw_611 : Cond.code yX5_costs cX5_costs 1 (some .int) ∈ wALL := tk4 (i := 176) rfl rfl
theorem kw_612 : Cond.methodLink RL 159 yX4_open ∈ wALL := tk2 (i := 73) rfl rfl
theorem kw_613 : Cond.instanceMethod yX4_open ∈ wALL := tk2 (i := 74) rfl rfl
theorem kw_614 : Cond.selects RX4 yX4_open yX4_open ∈ wALL := tk2 (i := 75) rfl rfl
theorem kw_615 : Cond.code yX4_open cX4_open 1 (some .int) ∈ wALL := tk2 (i := 76) rfl rfl
theorem kw_616 : Cond.methodLink RL 162 yX5_open ∈ wALL := tk4 (i := 177) rfl rfl
theorem kw_617 : Cond.instanceMethod yX5_open ∈ wALL := tk4 (i := 178) rfl rfl
theorem kw_618 : Cond.selects RX5 yX5_open yX5_open ∈ wALL := tk4 (i := 179) rfl rfl
theorem kw_619 : Cond.code yX5_open cX5_open 1 (some .int) ∈ wALL := tk4 (i := 180) rfl rfl
theorem kw_620 : Cond.methodLink RL 163 yL_openOf ∈ wALL := tk3 (i := 142) rfl rfl
theorem kw_621 : Cond.static yL_openOf ∈ wALL := tk3 (i := 143) rfl rfl
theorem kw_622 : Cond.methodLink RL 165 yX5_openOf ∈ wALL := tk4 (i := 181) rfl rfl
theorem kw_623 : Cond.instanceMethod yX5_openOf ∈ wALL := tk4 (i := 182) rfl rfl
theorem kw_624 : Cond.selects RX5 yX5_openOf yX5_openOf ∈ wALL := tk4 (i := 183) rfl rfl
theorem kw_625 : Cond.code yX5_openOf cX5_openOf 2 (some .int) ∈ wALL := tk4 (i := 184) rfl rfl
theorem kw_626 : Cond.methodLink RL 166 yL_got ∈ wALL := tk3 (i := 149) rfl rfl
theorem kw_627 : Cond.static yL_got ∈ wALL := tk3 (i := 150) rfl rfl
theorem kw_628 : Cond.methodLink RL 168 yX5_got ∈ wALL := tk4 (i := 185) rfl rfl
theorem kw_629 : Cond.instanceMethod yX5_got ∈ wALL := tk4 (i := 186) rfl rfl
theorem kw_630 : Cond.selects RX5 yX5_got yX5_got ∈ wALL := tk4 (i := 187) rfl rfl
theorem kw_631 : Cond.code yX5_got cX5_got 2 (some .int) ∈ wALL := tk4 (i := 188) rfl rfl
theorem kw_632 : Cond.methodLink RL 169 yX4_house ∈ wALL := tk2 (i := 77) rfl rfl
theorem kw_633 : Cond.instanceMethod yX4_house ∈ wALL := tk2 (i := 78) rfl rfl
theorem kw_634 : Cond.selects RX4 yX4_house yX4_house ∈ wALL := tk2 (i := 79) rfl rfl
theorem kw_635 : Cond.code yX4_house cX4_house 1 (some .int) ∈ wALL := tk2 (i := 80) rfl rfl
theorem kw_636 : Cond.methodLink RL 172 yX5_house ∈ wALL := tk4 (i := 189) rfl rfl
theorem kw_637 : Cond.instanceMethod yX5_house ∈ wALL := tk4 (i := 190) rfl rfl
theorem kw_638 : Cond.selects RX5 yX5_house yX5_house ∈ wALL := tk4 (i := 191) rfl rfl
theorem kw_639 : Cond.code yX5_house cX5_house 1 (some .int) ∈ wALL := tk4 (i := 192) rfl rfl
theorem cs_L_77 : csH RL 77 yL_addScene cL_addScene 8 [(0, 16, 19, 13), (0, 16, 23, 15)] 7 := ⟨kw_469, kw_470, kw_471, kw_381, by decide +kernel⟩
theorem cs_L_82 : csV RL RX5 82 yX5_addScene cX5_addScene 7 (some .int) 5 := ⟨kw_472, kw_473, kw_474, kw_262, kw_475, by decide +kernel⟩
theorem cs_L_83 : csV RL RX5 83 yX5_thrown cX5_thrown 1 (some .int) 0 := ⟨kw_476, kw_477, kw_478, kw_262, kw_479, by decide +kernel⟩
theorem cs_L_86 : csH RL 86 yL_setOut cL_setOut 5 [(0, 17, 20, 21)] 4 := ⟨kw_480, kw_481, kw_471, kw_388, by decide +kernel⟩
theorem cs_L_89 : csV RL RX5 89 yX5_setOut cX5_setOut 4 (some .boolean) 2 := ⟨kw_482, kw_483, kw_484, kw_262, kw_485, by decide +kernel⟩
theorem cs_L_90 : csH RL 90 yL_setChild cL_setChild 5 [(0, 17, 20, 21)] 4 := ⟨kw_486, kw_487, kw_471, kw_394, by decide +kernel⟩
theorem cs_L_92 : csV RL RX5 92 yX5_setChild cX5_setChild 4 (some .boolean) 2 := ⟨kw_488, kw_489, kw_490, kw_262, kw_491, by decide +kernel⟩
theorem cs_L_93 : csH RL 93 yL_setRates cL_setRates 5 [(0, 10, 13, 13)] 4 := ⟨kw_492, kw_493, kw_471, kw_399, by decide +kernel⟩
theorem cs_L_96 : csV RL RX5 96 yX5_setRates cX5_setRates 4 (some .int) 2 := ⟨kw_494, kw_495, kw_496, kw_262, kw_497, by decide +kernel⟩
theorem cs_L_97 : csV RL RX4 97 yX4_hold cX4_hold 3 (some .boolean) 1 := ⟨kw_498, kw_499, kw_500, kw_4, kw_501, by decide +kernel⟩
theorem cs_L_101 : csV RL RX5 101 yX5_hold cX5_hold 3 (some .boolean) 1 := ⟨kw_502, kw_503, kw_504, kw_262, kw_505, by decide +kernel⟩
theorem cs_L_102 : csH RL 102 yL_shoot cL_shoot 4 [(0, 9, 12, 15)] 3 := ⟨kw_506, kw_507, kw_471, kw_404, by decide +kernel⟩
theorem cs_L_105 : csV RL RX5 105 yX5_shoot cX5_shoot 7 (some .int) 1 := ⟨kw_508, kw_509, kw_510, kw_262, kw_511, by decide +kernel⟩
theorem cs_L_106 : csH RL 106 yL_approve cL_approve 5 [(0, 10, 13, 21), (0, 10, 17, 13)] 4 := ⟨kw_512, kw_513, kw_471, kw_409, by decide +kernel⟩
theorem cs_L_108 : csV RL RX5 108 yX5_approve cX5_approve 3 (some .int) 2 := ⟨kw_514, kw_515, kw_516, kw_262, kw_517, by decide +kernel⟩
theorem cs_L_109 : csH RL 109 yL_grant cL_grant 4 [(0, 9, 12, 13)] 3 := ⟨kw_518, kw_519, kw_471, kw_414, by decide +kernel⟩
theorem cs_L_112 : csV RL RX5 112 yX5_grant cX5_grant 2 (some .int) 1 := ⟨kw_520, kw_521, kw_522, kw_262, kw_523, by decide +kernel⟩
theorem cs_L_113 : csH RL 113 yL_bill cL_bill 5 [(0, 10, 13, 21), (0, 10, 17, 13), (0, 10, 21, 15)] 4 := ⟨kw_524, kw_525, kw_471, kw_419, by decide +kernel⟩
theorem cs_L_115 : csV RL RX5 115 yX5_bill cX5_bill 4 (some .int) 2 := ⟨kw_526, kw_527, kw_528, kw_262, kw_529, by decide +kernel⟩
theorem cs_L_116 : csH RL 116 yL_loan cL_loan 5 [(0, 10, 13, 21), (0, 10, 17, 13), (0, 10, 21, 15)] 4 := ⟨kw_530, kw_531, kw_471, kw_424, by decide +kernel⟩
theorem cs_L_118 : csV RL RX5 118 yX5_loan cX5_loan 3 (some .int) 2 := ⟨kw_532, kw_533, kw_534, kw_262, kw_535, by decide +kernel⟩
theorem cs_L_119 : csH RL 119 yL_part cL_part 6 [(0, 12, 15, 21), (0, 12, 19, 13), (0, 12, 23, 15)] 5 := ⟨kw_536, kw_537, kw_471, kw_429, by decide +kernel⟩
theorem cs_L_122 : csV RL RX5 122 yX5_part cX5_part 7 (some .int) 3 := ⟨kw_538, kw_539, kw_540, kw_262, kw_541, by decide +kernel⟩
theorem cs_L_123 : csH RL 123 yL_income cL_income 4 [(0, 9, 12, 13)] 3 := ⟨kw_542, kw_543, kw_471, kw_434, by decide +kernel⟩
theorem cs_L_125 : csV RL RX5 125 yX5_income cX5_income 6 (some .int) 1 := ⟨kw_544, kw_545, kw_546, kw_262, kw_547, by decide +kernel⟩
theorem cs_L_126 : csV RL RX4 126 yX4_today cX4_today 1 (some .int) 0 := ⟨kw_548, kw_549, kw_550, kw_4, kw_551, by decide +kernel⟩
theorem cs_L_129 : csV RL RX5 129 yX5_today cX5_today 1 (some .int) 0 := ⟨kw_552, kw_553, kw_554, kw_262, kw_555, by decide +kernel⟩
theorem cs_L_130 : csV RL RX4 130 yX4_shot cX4_shot 1 (some .int) 0 := ⟨kw_556, kw_557, kw_558, kw_4, kw_559, by decide +kernel⟩
theorem cs_L_133 : csV RL RX5 133 yX5_shot cX5_shot 1 (some .int) 0 := ⟨kw_560, kw_561, kw_562, kw_262, kw_563, by decide +kernel⟩
theorem cs_L_134 : csV RL RX4 134 yX4_days cX4_days 1 (some .int) 0 := ⟨kw_564, kw_565, kw_566, kw_4, kw_567, by decide +kernel⟩
theorem cs_L_137 : csV RL RX5 137 yX5_days cX5_days 1 (some .int) 0 := ⟨kw_568, kw_569, kw_570, kw_262, kw_571, by decide +kernel⟩
theorem cs_L_138 : csH RL 138 yL_daysByAll cL_daysByAll 3 [(0, 8, 11, 15)] 2 := ⟨kw_572, kw_573, kw_471, kw_439, by decide +kernel⟩
theorem cs_L_141 : csV RL RX5 141 yX5_daysByAll cX5_daysByAll 1 (some .int) 0 := ⟨kw_574, kw_575, kw_576, kw_262, kw_577, by decide +kernel⟩
theorem cs_L_142 : csH RL 142 yL_planned cL_planned 4 [(0, 9, 12, 21)] 3 := ⟨kw_578, kw_579, kw_471, kw_444, by decide +kernel⟩
theorem cs_L_144 : csV RL RX5 144 yX5_planned cX5_planned 2 (some .int) 1 := ⟨kw_580, kw_581, kw_582, kw_262, kw_583, by decide +kernel⟩
theorem cs_L_145 : csH RL 145 yL_begins cL_begins 4 [(0, 9, 12, 21)] 3 := ⟨kw_584, kw_585, kw_471, kw_449, by decide +kernel⟩
theorem cs_L_147 : csV RL RX5 147 yX5_begins cX5_begins 4 (some .int) 1 := ⟨kw_586, kw_587, kw_588, kw_262, kw_589, by decide +kernel⟩
theorem cs_L_148 : csH RL 148 yL_left cL_left 4 [(0, 9, 12, 21)] 3 := ⟨kw_590, kw_591, kw_471, kw_454, by decide +kernel⟩
theorem cs_L_150 : csV RL RX5 150 yX5_left cX5_left 2 (some .int) 1 := ⟨kw_592, kw_593, kw_594, kw_262, kw_595, by decide +kernel⟩
theorem cs_L_151 : csV RL RX4 151 yX4_fee cX4_fee 1 (some .int) 0 := ⟨kw_596, kw_597, kw_598, kw_4, kw_599, by decide +kernel⟩
theorem cs_L_154 : csV RL RX5 154 yX5_fee cX5_fee 1 (some .int) 0 := ⟨kw_600, kw_601, kw_602, kw_262, kw_603, by decide +kernel⟩
theorem cs_L_155 : csV RL RX4 155 yX4_costs cX4_costs 1 (some .int) 0 := ⟨kw_604, kw_605, kw_606, kw_4, kw_607, by decide +kernel⟩
theorem cs_L_158 : csV RL RX5 158 yX5_costs cX5_costs 1 (some .int) 0 := ⟨kw_608, kw_609, kw_610, kw_262, kw_611, by decide +kernel⟩
theorem cs_L_159 : csV RL RX4 159 yX4_open cX4_open 1 (some .int) 0 := ⟨kw_612, kw_613, kw_614, kw_4, kw_615, by decide +kernel⟩
theorem cs_L_162 : csV RL RX5 162 yX5_open cX5_open 1 (some .int) 0 := ⟨kw_616, kw_617, kw_618, kw_262, kw_619, by decide +kernel⟩
theorem cs_L_163 : csH RL 163 yL_openOf cL_openOf 4 [(0, 9, 12, 21)] 3 := ⟨kw_620, kw_621, kw_471, kw_459, by decide +kernel⟩
theorem cs_L_165 : csV RL RX5 165 yX5_openOf cX5_openOf 2 (some .int) 1 := ⟨kw_622, kw_623, kw_624, kw_262, kw_625, by decide +kernel⟩
theorem cs_L_166 : csH RL 166 yL_got cL_got 4 [(0, 9, 12, 21)] 3 := ⟨kw_626, kw_627, kw_471, kw_464, by decide +kernel⟩
theorem cs_L_168 : csV RL RX5 168 yX5_got cX5_got 2 (some .int) 1 := ⟨kw_628, kw_629, kw_630, kw_262, kw_631, by decide +kernel⟩
theorem cs_L_169 : csV RL RX4 169 yX4_house cX4_house 1 (some .int) 0 := ⟨kw_632, kw_633, kw_634, kw_4, kw_635, by decide +kernel⟩
theorem cs_L_172 : csV RL RX5 172 yX5_house cX5_house 1 (some .int) 0 := ⟨kw_636, kw_637, kw_638, kw_262, kw_639, by decide +kernel⟩
set_option maxHeartbeats 4000000 in
set_option maxRecDepth 100000 in
theorem lc_0 {p : Program} {l : Launch} {e : Env} {s : State} {m : MethodId} {below : List Frame} {meth : Method} {c : Code} {D : va_G} {q q2 : Nat → Nat} {o : Nat} {cA cL : ClassId} {b L : Nat} {xs : Nat → Int32} (C : LC p l s m meth c D q q2 o cA cL b L xs) {cells slots : Nat} (hcs : cells + 1 ≤ room_1.cells ∧ slots + 6 ≤ room_1.slots) {x4 : Int32} (h1 : vp_in (x4 + 1) L) (h2 : vp_in (x4 + 2) L) (h3 : vp_in (x4 + 3) L) (h4 : vp_in (x4 + 4) L) (h5 : vp_in (x4 + 5) L) {σ τ : SS} (f : Nat → Int64) {j : Nat} (hj : j < 512) (R : Rel j σ τ) (kk : ∀ (σ1 τ1 : SS) (f1 : Nat → Int64), Rel (j + 1) σ1 τ1 → LW p l e s m below meth c D q q2 o cA cL b (cells + 1) (slots + 6) σ1 τ1 f1 1434 x4) : LW p l e s m below meth c D q q2 o cA cL b cells slots σ τ f 156 x4 := by
  obtain ⟨hx, hb, hr, hlk, hml, hown, hts, hK, hN, hZ, hX, hbl, hDD, hl0⟩ := C
  have hK1 : va_K D vwCl [(cA, .int)] s := hK.sub [0] rfl
  have hA : ∀ q : Nat, s.heap.size ≤ q → (fun q : Nat => s.heap.size ≤ q) q := fun _ h => h
  have hbA : ¬ (fun q : Nat => s.heap.size ≤ q) b := Nat.not_le.mpr hbl
  refine ww_aload_n hx hb dL_law_156 rfl 1 rfl ?_
  refine ww_aload_n hx hb dL_law_157 rfl 0 rfl ?_
  refine ww_iload hx hb dL_law_158 4 rfl ?_
  refine ww_iconst (v := 1) hx hb dL_law_160 (by decide) ?_
  refine ww_iadd hx hb dL_law_161 ?_
  refine ww_sld hx hb hX hbl hbA h1 dL_law_162 ?_
  refine ww_aload_n hx hb dL_law_163 rfl 0 rfl ?_
  refine ww_iload hx hb dL_law_164 4 rfl ?_
  refine ww_iconst (v := 2) hx hb dL_law_166 (by decide) ?_
  refine ww_iadd hx hb dL_law_167 ?_
  refine ww_sld hx hb hX hbl hbA h2 dL_law_168 ?_
  refine ww_aload_n hx hb dL_law_169 rfl 0 rfl ?_
  refine ww_iload hx hb dL_law_170 4 rfl ?_
  refine ww_iconst (v := 3) hx hb dL_law_172 (by decide) ?_
  refine ww_iadd hx hb dL_law_173 ?_
  refine ww_sld hx hb hX hbl hbA h3 dL_law_174 ?_
  refine ww_aload_n hx hb dL_law_175 rfl 0 rfl ?_
  refine ww_iload hx hb dL_law_176 4 rfl ?_
  refine ww_iconst (v := 4) hx hb dL_law_178 (by decide) ?_
  refine ww_iadd hx hb dL_law_179 ?_
  refine ww_sld hx hb hX hbl hbA h4 dL_law_180 ?_
  refine ww_aload_n hx hb dL_law_181 rfl 0 rfl ?_
  refine ww_iload hx hb dL_law_182 4 rfl ?_
  refine ww_iconst (v := 5) hx hb dL_law_184 (by decide) ?_
  refine ww_iadd hx hb dL_law_185 ?_
  refine ww_sld hx hb hX hbl hbA h5 dL_law_186 ?_
  refine ww_aload_n hx hb dL_law_187 rfl 3 rfl ?_
  obtain ⟨r, σ1, bb, τ1, e1, e2, R1, ag⟩ := st_addScene hj R (xs (Int32.toNatClampNeg (x4 + 1))) (xs (Int32.toNatClampNeg (x4 + 2))) (xs (Int32.toNatClampNeg (x4 + 3))) (xs (Int32.toNatClampNeg (x4 + 4))) (xs (Int32.toNatClampNeg (x4 + 5)))
  obtain ⟨k, f1, hk, hth, ho⟩ := agr_int ag f
  refine ww_callH hx hb hml hown hts hK hN hA hZ (WR q2 cA τ) [.ref (q 0), .int (xs (Int32.toNatClampNeg (x4 + 1))), .int (xs (Int32.toNatClampNeg (x4 + 2))), .int (xs (Int32.toNatClampNeg (x4 + 3))), .int (xs (Int32.toNatClampNeg (x4 + 4))), .int (xs (Int32.toNatClampNeg (x4 + 5))), .ref o] [] (mL_addScene hl0 σ (xs (Int32.toNatClampNeg (x4 + 1))) (xs (Int32.toNatClampNeg (x4 + 2))) (xs (Int32.toNatClampNeg (x4 + 3))) (xs (Int32.toNatClampNeg (x4 + 4))) (xs (Int32.toNatClampNeg (x4 + 5))) f r σ1 e1 k f1 hk) cs_L_77 rfl (by decide) hcs rfl (hDD _ _ _) rfl rfl (Nat.le_of_ble_eq_true rfl) dL_law_188 ?_
  refine ww_istore (i := 5) (lv1 := [(0, .ref b), (1, .ref (q 0)), (2, .ref (q2 0)), (3, .ref o), (4, .int x4), (5, .int k)]) hx hb dL_law_191 (by decide) [1, 2, 3, 4, 5, 0] rfl ?_
  refine ww_aload_n hx hb dL_law_193 rfl 2 rfl ?_
  refine ww_aload_n hx hb dL_law_194 rfl 0 rfl ?_
  refine ww_iload hx hb dL_law_195 4 rfl ?_
  refine ww_iconst (v := 1) hx hb dL_law_197 (by decide) ?_
  refine ww_iadd hx hb dL_law_198 ?_
  refine ww_sld hx hb hX hbl hbA h1 dL_law_199 ?_
  refine ww_aload_n hx hb dL_law_200 rfl 0 rfl ?_
  refine ww_iload hx hb dL_law_201 4 rfl ?_
  refine ww_iconst (v := 2) hx hb dL_law_203 (by decide) ?_
  refine ww_iadd hx hb dL_law_204 ?_
  refine ww_sld hx hb hX hbl hbA h2 dL_law_205 ?_
  refine ww_aload_n hx hb dL_law_206 rfl 0 rfl ?_
  refine ww_iload hx hb dL_law_207 4 rfl ?_
  refine ww_iconst (v := 3) hx hb dL_law_209 (by decide) ?_
  refine ww_iadd hx hb dL_law_210 ?_
  refine ww_sld hx hb hX hbl hbA h3 dL_law_211 ?_
  refine ww_aload_n hx hb dL_law_212 rfl 0 rfl ?_
  refine ww_iload hx hb dL_law_213 4 rfl ?_
  refine ww_iconst (v := 4) hx hb dL_law_215 (by decide) ?_
  refine ww_iadd hx hb dL_law_216 ?_
  refine ww_sld hx hb hX hbl hbA h4 dL_law_217 ?_
  refine ww_aload_n hx hb dL_law_218 rfl 0 rfl ?_
  refine ww_iload hx hb dL_law_219 4 rfl ?_
  refine ww_iconst (v := 5) hx hb dL_law_221 (by decide) ?_
  refine ww_iadd hx hb dL_law_222 ?_
  refine ww_sld hx hb hX hbl hbA h5 dL_law_223 ?_
  refine ww_swap ?_
  refine ww_callVF hx hb hml hown hts hN hA hK1 hcs.1 hcs.2 (WO o cL f1 ++ WC q cA σ1) [.int (xs (Int32.toNatClampNeg (x4 + 1))), .int (xs (Int32.toNatClampNeg (x4 + 2))), .int (xs (Int32.toNatClampNeg (x4 + 3))), .int (xs (Int32.toNatClampNeg (x4 + 4))), .int (xs (Int32.toNatClampNeg (x4 + 5)))] [] (m_X5_addScene τ (xs (Int32.toNatClampNeg (x4 + 1))) (xs (Int32.toNatClampNeg (x4 + 2))) (xs (Int32.toNatClampNeg (x4 + 3))) (xs (Int32.toNatClampNeg (x4 + 4))) (xs (Int32.toNatClampNeg (x4 + 5))) _ τ1 e2) cs_L_82 rfl (by decide) rfl ((hDD _ _ _).sw) rfl 0 rfl rfl rfl (Nat.le_of_ble_eq_true rfl) dL_law_224 ?_
  refine ww_istore (i := 6) (lv1 := [(0, .ref b), (1, .ref (q 0)), (2, .ref (q2 0)), (3, .ref o), (4, .int x4), (5, .int k), (6, .int bb)]) hx hb dL_law_227 (by decide) [1, 2, 3, 4, 5, 6, 0] rfl ?_
  refine ww_aload_n hx hb dL_law_229 rfl 2 rfl ?_
  refine ww_callVF hx hb hml hown hts hN hA hK1 hcs.1 hcs.2 (WO o cL f1 ++ WC q cA σ1) [] [] (m_X5_thrown τ1) cs_L_83 rfl (by decide) rfl ((hDD _ _ _).sw) rfl 0 rfl rfl rfl (Nat.le_of_ble_eq_true rfl) dL_law_230 ?_
  refine ww_iload hx hb dL_law_233 5 rfl ?_
  refine ww_eq2 (tgt := 240) hx hb dL_law_235 (by decide) (fun c_1 => ?_) (fun c_1 => ?_)
  · refine ww_iload hx hb dL_law_240 5 rfl ?_
    refine ww_ne0 (tgt := 257) hx hb dL_law_242 (by decide) (fun hk0 => ?_) (fun hk0 => ?_)
    · refine ww_goto (tgt := 1434) hx hb dL_law_257 (by decide) ?_
      refine ww_swap ?_
      refine ww_sub (lv1 := [(0, .ref b), (1, .ref (q 0)), (2, .ref (q2 0)), (3, .ref o), (4, .int x4)]) [0, 1, 2, 3, 4] rfl ?_
      exact ww_widen (by omega) (by omega) (kk _ _ _ R1)
    · refine ww_aload_n hx hb dL_law_245 rfl 3 rfl ?_
      refine ww_iconst (v := 0) hx hb dL_law_246 (by decide) ?_
      refine ww_lald (i := 0) hx hb hown hts hK 0 1 rfl rfl in0 dL_law_247 ?_
      refine ww_iload hx hb dL_law_248 6 rfl ?_
      refine ww_i2l hx hb dL_law_250 ?_
      refine ww_lcmp hx hb dL_law_251 ?_
      refine ww_eq0 (tgt := 257) hx hb dL_law_252 (by decide) (fun c_3 => ?_) (fun c_3 => ?_)
      · refine ww_goto (tgt := 1434) hx hb dL_law_257 (by decide) ?_
        refine ww_swap ?_
        refine ww_sub (lv1 := [(0, .ref b), (1, .ref (q 0)), (2, .ref (q2 0)), (3, .ref o), (4, .int x4)]) [0, 1, 2, 3, 4] rfl ?_
        exact ww_widen (by omega) (by omega) (kk _ _ _ R1)
      · exact absurd (by rw [ho hk0]; exact lg_cmp_self _) c_3
  · exact absurd hth c_1
set_option maxHeartbeats 4000000 in
set_option maxRecDepth 100000 in
theorem lc_1 {p : Program} {l : Launch} {e : Env} {s : State} {m : MethodId} {below : List Frame} {meth : Method} {c : Code} {D : va_G} {q q2 : Nat → Nat} {o : Nat} {cA cL : ClassId} {b L : Nat} {xs : Nat → Int32} (C : LC p l s m meth c D q q2 o cA cL b L xs) {cells slots : Nat} (hcs : cells + 1 ≤ room_1.cells ∧ slots + 6 ≤ room_1.slots) {x4 : Int32} (h1 : vp_in (x4 + 1) L) (h2 : vp_in (x4 + 2) L) (h3 : vp_in (x4 + 3) L) (h4 : vp_in (x4 + 4) L) (h5 : vp_in (x4 + 5) L) {σ τ : SS} (f : Nat → Int64) {j : Nat} (hj : j < 512) (R : Rel j σ τ) (kk : ∀ (σ1 τ1 : SS) (f1 : Nat → Int64), Rel (j + 1) σ1 τ1 → LW p l e s m below meth c D q q2 o cA cL b (cells + 1) (slots + 6) σ1 τ1 f1 1434 x4) : LW p l e s m below meth c D q q2 o cA cL b cells slots σ τ f 260 x4 := by
  obtain ⟨hx, hb, hr, hlk, hml, hown, hts, hK, hN, hZ, hX, hbl, hDD, hl0⟩ := C
  have hK1 : va_K D vwCl [(cA, .int)] s := hK.sub [0] rfl
  have hA : ∀ q : Nat, s.heap.size ≤ q → (fun q : Nat => s.heap.size ≤ q) q := fun _ h => h
  have hbA : ¬ (fun q : Nat => s.heap.size ≤ q) b := Nat.not_le.mpr hbl
  refine ww_aload_n hx hb dL_law_260 rfl 1 rfl ?_
  refine ww_aload_n hx hb dL_law_261 rfl 0 rfl ?_
  refine ww_iload hx hb dL_law_262 4 rfl ?_
  refine ww_iconst (v := 1) hx hb dL_law_264 (by decide) ?_
  refine ww_iadd hx hb dL_law_265 ?_
  refine ww_sld hx hb hX hbl hbA h1 dL_law_266 ?_
  refine ww_aload_n hx hb dL_law_267 rfl 0 rfl ?_
  refine ww_iload hx hb dL_law_268 4 rfl ?_
  refine ww_iconst (v := 2) hx hb dL_law_270 (by decide) ?_
  refine ww_iadd hx hb dL_law_271 ?_
  refine ww_sld hx hb hX hbl hbA h2 dL_law_272 ?_
  refine ww_eq0 (tgt := 280) hx hb dL_law_273 (by decide) (fun c_1 => ?_) (fun c_1 => ?_)
  · refine ww_iconst (v := 0) hx hb dL_law_280 (by decide) ?_
    refine ww_aload_n hx hb dL_law_281 rfl 3 rfl ?_
    obtain ⟨r, σ1, bb, τ1, e1, e2, R1, ag⟩ := st_setOut hj R (xs (Int32.toNatClampNeg (x4 + 1))) (0 : Int32) (Or.inl rfl)
    obtain ⟨k, f1, hk, hth, ho⟩ := agr_bool ag f
    refine ww_callH hx hb hml hown hts hK hN hA hZ (WR q2 cA τ) [.ref (q 0), .int (xs (Int32.toNatClampNeg (x4 + 1))), .int (0 : Int32), .ref o] [] (mL_setOut hl0 σ (xs (Int32.toNatClampNeg (x4 + 1))) (0 : Int32) f r σ1 e1 k f1 hk) cs_L_86 rfl (by decide) hcs rfl (hDD _ _ _) rfl rfl (Nat.le_of_ble_eq_true rfl) dL_law_282 ?_
    refine ww_istore (i := 5) (lv1 := [(0, .ref b), (1, .ref (q 0)), (2, .ref (q2 0)), (3, .ref o), (4, .int x4), (5, .int k)]) hx hb dL_law_285 (by decide) [1, 2, 3, 4, 5, 0] rfl ?_
    refine ww_aload_n hx hb dL_law_287 rfl 2 rfl ?_
    refine ww_aload_n hx hb dL_law_288 rfl 0 rfl ?_
    refine ww_iload hx hb dL_law_289 4 rfl ?_
    refine ww_iconst (v := 1) hx hb dL_law_291 (by decide) ?_
    refine ww_iadd hx hb dL_law_292 ?_
    refine ww_sld hx hb hX hbl hbA h1 dL_law_293 ?_
    refine ww_aload_n hx hb dL_law_294 rfl 0 rfl ?_
    refine ww_iload hx hb dL_law_295 4 rfl ?_
    refine ww_iconst (v := 2) hx hb dL_law_297 (by decide) ?_
    refine ww_iadd hx hb dL_law_298 ?_
    refine ww_sld hx hb hX hbl hbA h2 dL_law_299 ?_
    refine ww_eq0 (tgt := 307) hx hb dL_law_300 (by decide) (fun c_2 => ?_) (fun c_2 => ?_)
    · refine ww_iconst (v := 0) hx hb dL_law_307 (by decide) ?_
      refine ww_swap ?_
      refine ww_callVF hx hb hml hown hts hN hA hK1 hcs.1 hcs.2 (WO o cL f1 ++ WC q cA σ1) [.int (xs (Int32.toNatClampNeg (x4 + 1))), .int (0 : Int32)] [] (m_X5_setOut τ (xs (Int32.toNatClampNeg (x4 + 1))) (0 : Int32) _ τ1 e2) cs_L_89 rfl (by decide) rfl ((hDD _ _ _).sw) rfl 0 rfl rfl rfl (Nat.le_of_ble_eq_true rfl) dL_law_308 ?_
      refine ww_istore (i := 6) (lv1 := [(0, .ref b), (1, .ref (q 0)), (2, .ref (q2 0)), (3, .ref o), (4, .int x4), (5, .int k), (6, .int bb)]) hx hb dL_law_311 (by decide) [1, 2, 3, 4, 5, 6, 0] rfl ?_
      refine ww_aload_n hx hb dL_law_313 rfl 2 rfl ?_
      refine ww_callVF hx hb hml hown hts hN hA hK1 hcs.1 hcs.2 (WO o cL f1 ++ WC q cA σ1) [] [] (m_X5_thrown τ1) cs_L_83 rfl (by decide) rfl ((hDD _ _ _).sw) rfl 0 rfl rfl rfl (Nat.le_of_ble_eq_true rfl) dL_law_314 ?_
      refine ww_iload hx hb dL_law_317 5 rfl ?_
      refine ww_eq2 (tgt := 324) hx hb dL_law_319 (by decide) (fun c_3 => ?_) (fun c_3 => ?_)
      · refine ww_iload hx hb dL_law_324 5 rfl ?_
        refine ww_ne0 (tgt := 348) hx hb dL_law_326 (by decide) (fun hk0 => ?_) (fun hk0 => ?_)
        · refine ww_goto (tgt := 1434) hx hb dL_law_348 (by decide) ?_
          refine ww_swap ?_
          refine ww_sub (lv1 := [(0, .ref b), (1, .ref (q 0)), (2, .ref (q2 0)), (3, .ref o), (4, .int x4)]) [0, 1, 2, 3, 4] rfl ?_
          exact ww_widen (by omega) (by omega) (kk _ _ _ R1)
        · refine ww_aload_n hx hb dL_law_329 rfl 3 rfl ?_
          refine ww_iconst (v := 0) hx hb dL_law_330 (by decide) ?_
          refine ww_lald (i := 0) hx hb hown hts hK 0 1 rfl rfl in0 dL_law_331 ?_
          refine ww_iload hx hb dL_law_332 6 rfl ?_
          refine ww_eq0 (tgt := 341) hx hb dL_law_334 (by decide) (fun c_5 => ?_) (fun c_5 => ?_)
          · refine ww_lconst (v := Int64.ofNat ((0 : Fin 2) : Nat)) hx hb dL_law_341 rfl ?_
            refine ww_lcmp hx hb dL_law_342 ?_
            refine ww_eq0 (tgt := 348) hx hb dL_law_343 (by decide) (fun c_6 => ?_) (fun c_6 => ?_)
            · refine ww_goto (tgt := 1434) hx hb dL_law_348 (by decide) ?_
              refine ww_swap ?_
              refine ww_sub (lv1 := [(0, .ref b), (1, .ref (q 0)), (2, .ref (q2 0)), (3, .ref o), (4, .int x4)]) [0, 1, 2, 3, 4] rfl ?_
              exact ww_widen (by omega) (by omega) (kk _ _ _ R1)
            · exact absurd (by rw [ho hk0, if_pos c_5]; rfl) c_6
          · refine ww_lconst (v := Int64.ofNat ((1 : Fin 2) : Nat)) hx hb dL_law_337 rfl ?_
            refine ww_goto (tgt := 342) hx hb dL_law_338 (by decide) ?_
            refine ww_lcmp hx hb dL_law_342 ?_
            refine ww_eq0 (tgt := 348) hx hb dL_law_343 (by decide) (fun c_7 => ?_) (fun c_7 => ?_)
            · refine ww_goto (tgt := 1434) hx hb dL_law_348 (by decide) ?_
              refine ww_swap ?_
              refine ww_sub (lv1 := [(0, .ref b), (1, .ref (q 0)), (2, .ref (q2 0)), (3, .ref o), (4, .int x4)]) [0, 1, 2, 3, 4] rfl ?_
              exact ww_widen (by omega) (by omega) (kk _ _ _ R1)
            · exact absurd (by rw [ho hk0, if_neg c_5]; rfl) c_7
      · exact absurd hth c_3
    · exact absurd c_1 c_2
  · refine ww_iconst (v := 1) hx hb dL_law_276 (by decide) ?_
    refine ww_goto (tgt := 281) hx hb dL_law_277 (by decide) ?_
    refine ww_aload_n hx hb dL_law_281 rfl 3 rfl ?_
    obtain ⟨r, σ1, bb, τ1, e1, e2, R1, ag⟩ := st_setOut hj R (xs (Int32.toNatClampNeg (x4 + 1))) (1 : Int32) (Or.inr rfl)
    obtain ⟨k, f1, hk, hth, ho⟩ := agr_bool ag f
    refine ww_callH hx hb hml hown hts hK hN hA hZ (WR q2 cA τ) [.ref (q 0), .int (xs (Int32.toNatClampNeg (x4 + 1))), .int (1 : Int32), .ref o] [] (mL_setOut hl0 σ (xs (Int32.toNatClampNeg (x4 + 1))) (1 : Int32) f r σ1 e1 k f1 hk) cs_L_86 rfl (by decide) hcs rfl (hDD _ _ _) rfl rfl (Nat.le_of_ble_eq_true rfl) dL_law_282 ?_
    refine ww_istore (i := 5) (lv1 := [(0, .ref b), (1, .ref (q 0)), (2, .ref (q2 0)), (3, .ref o), (4, .int x4), (5, .int k)]) hx hb dL_law_285 (by decide) [1, 2, 3, 4, 5, 0] rfl ?_
    refine ww_aload_n hx hb dL_law_287 rfl 2 rfl ?_
    refine ww_aload_n hx hb dL_law_288 rfl 0 rfl ?_
    refine ww_iload hx hb dL_law_289 4 rfl ?_
    refine ww_iconst (v := 1) hx hb dL_law_291 (by decide) ?_
    refine ww_iadd hx hb dL_law_292 ?_
    refine ww_sld hx hb hX hbl hbA h1 dL_law_293 ?_
    refine ww_aload_n hx hb dL_law_294 rfl 0 rfl ?_
    refine ww_iload hx hb dL_law_295 4 rfl ?_
    refine ww_iconst (v := 2) hx hb dL_law_297 (by decide) ?_
    refine ww_iadd hx hb dL_law_298 ?_
    refine ww_sld hx hb hX hbl hbA h2 dL_law_299 ?_
    refine ww_eq0 (tgt := 307) hx hb dL_law_300 (by decide) (fun c_8 => ?_) (fun c_8 => ?_)
    · exact absurd c_8 c_1
    · refine ww_iconst (v := 1) hx hb dL_law_303 (by decide) ?_
      refine ww_goto (tgt := 308) hx hb dL_law_304 (by decide) ?_
      refine ww_swap ?_
      refine ww_callVF hx hb hml hown hts hN hA hK1 hcs.1 hcs.2 (WO o cL f1 ++ WC q cA σ1) [.int (xs (Int32.toNatClampNeg (x4 + 1))), .int (1 : Int32)] [] (m_X5_setOut τ (xs (Int32.toNatClampNeg (x4 + 1))) (1 : Int32) _ τ1 e2) cs_L_89 rfl (by decide) rfl ((hDD _ _ _).sw) rfl 0 rfl rfl rfl (Nat.le_of_ble_eq_true rfl) dL_law_308 ?_
      refine ww_istore (i := 6) (lv1 := [(0, .ref b), (1, .ref (q 0)), (2, .ref (q2 0)), (3, .ref o), (4, .int x4), (5, .int k), (6, .int bb)]) hx hb dL_law_311 (by decide) [1, 2, 3, 4, 5, 6, 0] rfl ?_
      refine ww_aload_n hx hb dL_law_313 rfl 2 rfl ?_
      refine ww_callVF hx hb hml hown hts hN hA hK1 hcs.1 hcs.2 (WO o cL f1 ++ WC q cA σ1) [] [] (m_X5_thrown τ1) cs_L_83 rfl (by decide) rfl ((hDD _ _ _).sw) rfl 0 rfl rfl rfl (Nat.le_of_ble_eq_true rfl) dL_law_314 ?_
      refine ww_iload hx hb dL_law_317 5 rfl ?_
      refine ww_eq2 (tgt := 324) hx hb dL_law_319 (by decide) (fun c_9 => ?_) (fun c_9 => ?_)
      · refine ww_iload hx hb dL_law_324 5 rfl ?_
        refine ww_ne0 (tgt := 348) hx hb dL_law_326 (by decide) (fun hk0 => ?_) (fun hk0 => ?_)
        · refine ww_goto (tgt := 1434) hx hb dL_law_348 (by decide) ?_
          refine ww_swap ?_
          refine ww_sub (lv1 := [(0, .ref b), (1, .ref (q 0)), (2, .ref (q2 0)), (3, .ref o), (4, .int x4)]) [0, 1, 2, 3, 4] rfl ?_
          exact ww_widen (by omega) (by omega) (kk _ _ _ R1)
        · refine ww_aload_n hx hb dL_law_329 rfl 3 rfl ?_
          refine ww_iconst (v := 0) hx hb dL_law_330 (by decide) ?_
          refine ww_lald (i := 0) hx hb hown hts hK 0 1 rfl rfl in0 dL_law_331 ?_
          refine ww_iload hx hb dL_law_332 6 rfl ?_
          refine ww_eq0 (tgt := 341) hx hb dL_law_334 (by decide) (fun c_11 => ?_) (fun c_11 => ?_)
          · refine ww_lconst (v := Int64.ofNat ((0 : Fin 2) : Nat)) hx hb dL_law_341 rfl ?_
            refine ww_lcmp hx hb dL_law_342 ?_
            refine ww_eq0 (tgt := 348) hx hb dL_law_343 (by decide) (fun c_12 => ?_) (fun c_12 => ?_)
            · refine ww_goto (tgt := 1434) hx hb dL_law_348 (by decide) ?_
              refine ww_swap ?_
              refine ww_sub (lv1 := [(0, .ref b), (1, .ref (q 0)), (2, .ref (q2 0)), (3, .ref o), (4, .int x4)]) [0, 1, 2, 3, 4] rfl ?_
              exact ww_widen (by omega) (by omega) (kk _ _ _ R1)
            · exact absurd (by rw [ho hk0, if_pos c_11]; rfl) c_12
          · refine ww_lconst (v := Int64.ofNat ((1 : Fin 2) : Nat)) hx hb dL_law_337 rfl ?_
            refine ww_goto (tgt := 342) hx hb dL_law_338 (by decide) ?_
            refine ww_lcmp hx hb dL_law_342 ?_
            refine ww_eq0 (tgt := 348) hx hb dL_law_343 (by decide) (fun c_13 => ?_) (fun c_13 => ?_)
            · refine ww_goto (tgt := 1434) hx hb dL_law_348 (by decide) ?_
              refine ww_swap ?_
              refine ww_sub (lv1 := [(0, .ref b), (1, .ref (q 0)), (2, .ref (q2 0)), (3, .ref o), (4, .int x4)]) [0, 1, 2, 3, 4] rfl ?_
              exact ww_widen (by omega) (by omega) (kk _ _ _ R1)
            · exact absurd (by rw [ho hk0, if_neg c_11]; rfl) c_13
      · exact absurd hth c_9
set_option maxHeartbeats 4000000 in
set_option maxRecDepth 100000 in
theorem lc_2 {p : Program} {l : Launch} {e : Env} {s : State} {m : MethodId} {below : List Frame} {meth : Method} {c : Code} {D : va_G} {q q2 : Nat → Nat} {o : Nat} {cA cL : ClassId} {b L : Nat} {xs : Nat → Int32} (C : LC p l s m meth c D q q2 o cA cL b L xs) {cells slots : Nat} (hcs : cells + 1 ≤ room_1.cells ∧ slots + 6 ≤ room_1.slots) {x4 : Int32} (h1 : vp_in (x4 + 1) L) (h2 : vp_in (x4 + 2) L) (h3 : vp_in (x4 + 3) L) (h4 : vp_in (x4 + 4) L) (h5 : vp_in (x4 + 5) L) {σ τ : SS} (f : Nat → Int64) {j : Nat} (hj : j < 512) (R : Rel j σ τ) (kk : ∀ (σ1 τ1 : SS) (f1 : Nat → Int64), Rel (j + 1) σ1 τ1 → LW p l e s m below meth c D q q2 o cA cL b (cells + 1) (slots + 6) σ1 τ1 f1 1434 x4) : LW p l e s m below meth c D q q2 o cA cL b cells slots σ τ f 351 x4 := by
  obtain ⟨hx, hb, hr, hlk, hml, hown, hts, hK, hN, hZ, hX, hbl, hDD, hl0⟩ := C
  have hK1 : va_K D vwCl [(cA, .int)] s := hK.sub [0] rfl
  have hA : ∀ q : Nat, s.heap.size ≤ q → (fun q : Nat => s.heap.size ≤ q) q := fun _ h => h
  have hbA : ¬ (fun q : Nat => s.heap.size ≤ q) b := Nat.not_le.mpr hbl
  refine ww_aload_n hx hb dL_law_351 rfl 1 rfl ?_
  refine ww_aload_n hx hb dL_law_352 rfl 0 rfl ?_
  refine ww_iload hx hb dL_law_353 4 rfl ?_
  refine ww_iconst (v := 1) hx hb dL_law_355 (by decide) ?_
  refine ww_iadd hx hb dL_law_356 ?_
  refine ww_sld hx hb hX hbl hbA h1 dL_law_357 ?_
  refine ww_aload_n hx hb dL_law_358 rfl 0 rfl ?_
  refine ww_iload hx hb dL_law_359 4 rfl ?_
  refine ww_iconst (v := 2) hx hb dL_law_361 (by decide) ?_
  refine ww_iadd hx hb dL_law_362 ?_
  refine ww_sld hx hb hX hbl hbA h2 dL_law_363 ?_
  refine ww_eq0 (tgt := 371) hx hb dL_law_364 (by decide) (fun c_1 => ?_) (fun c_1 => ?_)
  · refine ww_iconst (v := 0) hx hb dL_law_371 (by decide) ?_
    refine ww_aload_n hx hb dL_law_372 rfl 3 rfl ?_
    obtain ⟨r, σ1, bb, τ1, e1, e2, R1, ag⟩ := st_setChild hj R (xs (Int32.toNatClampNeg (x4 + 1))) (0 : Int32) (Or.inl rfl)
    obtain ⟨k, f1, hk, hth, ho⟩ := agr_bool ag f
    refine ww_callH hx hb hml hown hts hK hN hA hZ (WR q2 cA τ) [.ref (q 0), .int (xs (Int32.toNatClampNeg (x4 + 1))), .int (0 : Int32), .ref o] [] (mL_setChild hl0 σ (xs (Int32.toNatClampNeg (x4 + 1))) (0 : Int32) f r σ1 e1 k f1 hk) cs_L_90 rfl (by decide) hcs rfl (hDD _ _ _) rfl rfl (Nat.le_of_ble_eq_true rfl) dL_law_373 ?_
    refine ww_istore (i := 5) (lv1 := [(0, .ref b), (1, .ref (q 0)), (2, .ref (q2 0)), (3, .ref o), (4, .int x4), (5, .int k)]) hx hb dL_law_376 (by decide) [1, 2, 3, 4, 5, 0] rfl ?_
    refine ww_aload_n hx hb dL_law_378 rfl 2 rfl ?_
    refine ww_aload_n hx hb dL_law_379 rfl 0 rfl ?_
    refine ww_iload hx hb dL_law_380 4 rfl ?_
    refine ww_iconst (v := 1) hx hb dL_law_382 (by decide) ?_
    refine ww_iadd hx hb dL_law_383 ?_
    refine ww_sld hx hb hX hbl hbA h1 dL_law_384 ?_
    refine ww_aload_n hx hb dL_law_385 rfl 0 rfl ?_
    refine ww_iload hx hb dL_law_386 4 rfl ?_
    refine ww_iconst (v := 2) hx hb dL_law_388 (by decide) ?_
    refine ww_iadd hx hb dL_law_389 ?_
    refine ww_sld hx hb hX hbl hbA h2 dL_law_390 ?_
    refine ww_eq0 (tgt := 398) hx hb dL_law_391 (by decide) (fun c_2 => ?_) (fun c_2 => ?_)
    · refine ww_iconst (v := 0) hx hb dL_law_398 (by decide) ?_
      refine ww_swap ?_
      refine ww_callVF hx hb hml hown hts hN hA hK1 hcs.1 hcs.2 (WO o cL f1 ++ WC q cA σ1) [.int (xs (Int32.toNatClampNeg (x4 + 1))), .int (0 : Int32)] [] (m_X5_setChild τ (xs (Int32.toNatClampNeg (x4 + 1))) (0 : Int32) _ τ1 e2) cs_L_92 rfl (by decide) rfl ((hDD _ _ _).sw) rfl 0 rfl rfl rfl (Nat.le_of_ble_eq_true rfl) dL_law_399 ?_
      refine ww_istore (i := 6) (lv1 := [(0, .ref b), (1, .ref (q 0)), (2, .ref (q2 0)), (3, .ref o), (4, .int x4), (5, .int k), (6, .int bb)]) hx hb dL_law_402 (by decide) [1, 2, 3, 4, 5, 6, 0] rfl ?_
      refine ww_aload_n hx hb dL_law_404 rfl 2 rfl ?_
      refine ww_callVF hx hb hml hown hts hN hA hK1 hcs.1 hcs.2 (WO o cL f1 ++ WC q cA σ1) [] [] (m_X5_thrown τ1) cs_L_83 rfl (by decide) rfl ((hDD _ _ _).sw) rfl 0 rfl rfl rfl (Nat.le_of_ble_eq_true rfl) dL_law_405 ?_
      refine ww_iload hx hb dL_law_408 5 rfl ?_
      refine ww_eq2 (tgt := 415) hx hb dL_law_410 (by decide) (fun c_3 => ?_) (fun c_3 => ?_)
      · refine ww_iload hx hb dL_law_415 5 rfl ?_
        refine ww_ne0 (tgt := 439) hx hb dL_law_417 (by decide) (fun hk0 => ?_) (fun hk0 => ?_)
        · refine ww_goto (tgt := 1434) hx hb dL_law_439 (by decide) ?_
          refine ww_swap ?_
          refine ww_sub (lv1 := [(0, .ref b), (1, .ref (q 0)), (2, .ref (q2 0)), (3, .ref o), (4, .int x4)]) [0, 1, 2, 3, 4] rfl ?_
          exact ww_widen (by omega) (by omega) (kk _ _ _ R1)
        · refine ww_aload_n hx hb dL_law_420 rfl 3 rfl ?_
          refine ww_iconst (v := 0) hx hb dL_law_421 (by decide) ?_
          refine ww_lald (i := 0) hx hb hown hts hK 0 1 rfl rfl in0 dL_law_422 ?_
          refine ww_iload hx hb dL_law_423 6 rfl ?_
          refine ww_eq0 (tgt := 432) hx hb dL_law_425 (by decide) (fun c_5 => ?_) (fun c_5 => ?_)
          · refine ww_lconst (v := Int64.ofNat ((0 : Fin 2) : Nat)) hx hb dL_law_432 rfl ?_
            refine ww_lcmp hx hb dL_law_433 ?_
            refine ww_eq0 (tgt := 439) hx hb dL_law_434 (by decide) (fun c_6 => ?_) (fun c_6 => ?_)
            · refine ww_goto (tgt := 1434) hx hb dL_law_439 (by decide) ?_
              refine ww_swap ?_
              refine ww_sub (lv1 := [(0, .ref b), (1, .ref (q 0)), (2, .ref (q2 0)), (3, .ref o), (4, .int x4)]) [0, 1, 2, 3, 4] rfl ?_
              exact ww_widen (by omega) (by omega) (kk _ _ _ R1)
            · exact absurd (by rw [ho hk0, if_pos c_5]; rfl) c_6
          · refine ww_lconst (v := Int64.ofNat ((1 : Fin 2) : Nat)) hx hb dL_law_428 rfl ?_
            refine ww_goto (tgt := 433) hx hb dL_law_429 (by decide) ?_
            refine ww_lcmp hx hb dL_law_433 ?_
            refine ww_eq0 (tgt := 439) hx hb dL_law_434 (by decide) (fun c_7 => ?_) (fun c_7 => ?_)
            · refine ww_goto (tgt := 1434) hx hb dL_law_439 (by decide) ?_
              refine ww_swap ?_
              refine ww_sub (lv1 := [(0, .ref b), (1, .ref (q 0)), (2, .ref (q2 0)), (3, .ref o), (4, .int x4)]) [0, 1, 2, 3, 4] rfl ?_
              exact ww_widen (by omega) (by omega) (kk _ _ _ R1)
            · exact absurd (by rw [ho hk0, if_neg c_5]; rfl) c_7
      · exact absurd hth c_3
    · exact absurd c_1 c_2
  · refine ww_iconst (v := 1) hx hb dL_law_367 (by decide) ?_
    refine ww_goto (tgt := 372) hx hb dL_law_368 (by decide) ?_
    refine ww_aload_n hx hb dL_law_372 rfl 3 rfl ?_
    obtain ⟨r, σ1, bb, τ1, e1, e2, R1, ag⟩ := st_setChild hj R (xs (Int32.toNatClampNeg (x4 + 1))) (1 : Int32) (Or.inr rfl)
    obtain ⟨k, f1, hk, hth, ho⟩ := agr_bool ag f
    refine ww_callH hx hb hml hown hts hK hN hA hZ (WR q2 cA τ) [.ref (q 0), .int (xs (Int32.toNatClampNeg (x4 + 1))), .int (1 : Int32), .ref o] [] (mL_setChild hl0 σ (xs (Int32.toNatClampNeg (x4 + 1))) (1 : Int32) f r σ1 e1 k f1 hk) cs_L_90 rfl (by decide) hcs rfl (hDD _ _ _) rfl rfl (Nat.le_of_ble_eq_true rfl) dL_law_373 ?_
    refine ww_istore (i := 5) (lv1 := [(0, .ref b), (1, .ref (q 0)), (2, .ref (q2 0)), (3, .ref o), (4, .int x4), (5, .int k)]) hx hb dL_law_376 (by decide) [1, 2, 3, 4, 5, 0] rfl ?_
    refine ww_aload_n hx hb dL_law_378 rfl 2 rfl ?_
    refine ww_aload_n hx hb dL_law_379 rfl 0 rfl ?_
    refine ww_iload hx hb dL_law_380 4 rfl ?_
    refine ww_iconst (v := 1) hx hb dL_law_382 (by decide) ?_
    refine ww_iadd hx hb dL_law_383 ?_
    refine ww_sld hx hb hX hbl hbA h1 dL_law_384 ?_
    refine ww_aload_n hx hb dL_law_385 rfl 0 rfl ?_
    refine ww_iload hx hb dL_law_386 4 rfl ?_
    refine ww_iconst (v := 2) hx hb dL_law_388 (by decide) ?_
    refine ww_iadd hx hb dL_law_389 ?_
    refine ww_sld hx hb hX hbl hbA h2 dL_law_390 ?_
    refine ww_eq0 (tgt := 398) hx hb dL_law_391 (by decide) (fun c_8 => ?_) (fun c_8 => ?_)
    · exact absurd c_8 c_1
    · refine ww_iconst (v := 1) hx hb dL_law_394 (by decide) ?_
      refine ww_goto (tgt := 399) hx hb dL_law_395 (by decide) ?_
      refine ww_swap ?_
      refine ww_callVF hx hb hml hown hts hN hA hK1 hcs.1 hcs.2 (WO o cL f1 ++ WC q cA σ1) [.int (xs (Int32.toNatClampNeg (x4 + 1))), .int (1 : Int32)] [] (m_X5_setChild τ (xs (Int32.toNatClampNeg (x4 + 1))) (1 : Int32) _ τ1 e2) cs_L_92 rfl (by decide) rfl ((hDD _ _ _).sw) rfl 0 rfl rfl rfl (Nat.le_of_ble_eq_true rfl) dL_law_399 ?_
      refine ww_istore (i := 6) (lv1 := [(0, .ref b), (1, .ref (q 0)), (2, .ref (q2 0)), (3, .ref o), (4, .int x4), (5, .int k), (6, .int bb)]) hx hb dL_law_402 (by decide) [1, 2, 3, 4, 5, 6, 0] rfl ?_
      refine ww_aload_n hx hb dL_law_404 rfl 2 rfl ?_
      refine ww_callVF hx hb hml hown hts hN hA hK1 hcs.1 hcs.2 (WO o cL f1 ++ WC q cA σ1) [] [] (m_X5_thrown τ1) cs_L_83 rfl (by decide) rfl ((hDD _ _ _).sw) rfl 0 rfl rfl rfl (Nat.le_of_ble_eq_true rfl) dL_law_405 ?_
      refine ww_iload hx hb dL_law_408 5 rfl ?_
      refine ww_eq2 (tgt := 415) hx hb dL_law_410 (by decide) (fun c_9 => ?_) (fun c_9 => ?_)
      · refine ww_iload hx hb dL_law_415 5 rfl ?_
        refine ww_ne0 (tgt := 439) hx hb dL_law_417 (by decide) (fun hk0 => ?_) (fun hk0 => ?_)
        · refine ww_goto (tgt := 1434) hx hb dL_law_439 (by decide) ?_
          refine ww_swap ?_
          refine ww_sub (lv1 := [(0, .ref b), (1, .ref (q 0)), (2, .ref (q2 0)), (3, .ref o), (4, .int x4)]) [0, 1, 2, 3, 4] rfl ?_
          exact ww_widen (by omega) (by omega) (kk _ _ _ R1)
        · refine ww_aload_n hx hb dL_law_420 rfl 3 rfl ?_
          refine ww_iconst (v := 0) hx hb dL_law_421 (by decide) ?_
          refine ww_lald (i := 0) hx hb hown hts hK 0 1 rfl rfl in0 dL_law_422 ?_
          refine ww_iload hx hb dL_law_423 6 rfl ?_
          refine ww_eq0 (tgt := 432) hx hb dL_law_425 (by decide) (fun c_11 => ?_) (fun c_11 => ?_)
          · refine ww_lconst (v := Int64.ofNat ((0 : Fin 2) : Nat)) hx hb dL_law_432 rfl ?_
            refine ww_lcmp hx hb dL_law_433 ?_
            refine ww_eq0 (tgt := 439) hx hb dL_law_434 (by decide) (fun c_12 => ?_) (fun c_12 => ?_)
            · refine ww_goto (tgt := 1434) hx hb dL_law_439 (by decide) ?_
              refine ww_swap ?_
              refine ww_sub (lv1 := [(0, .ref b), (1, .ref (q 0)), (2, .ref (q2 0)), (3, .ref o), (4, .int x4)]) [0, 1, 2, 3, 4] rfl ?_
              exact ww_widen (by omega) (by omega) (kk _ _ _ R1)
            · exact absurd (by rw [ho hk0, if_pos c_11]; rfl) c_12
          · refine ww_lconst (v := Int64.ofNat ((1 : Fin 2) : Nat)) hx hb dL_law_428 rfl ?_
            refine ww_goto (tgt := 433) hx hb dL_law_429 (by decide) ?_
            refine ww_lcmp hx hb dL_law_433 ?_
            refine ww_eq0 (tgt := 439) hx hb dL_law_434 (by decide) (fun c_13 => ?_) (fun c_13 => ?_)
            · refine ww_goto (tgt := 1434) hx hb dL_law_439 (by decide) ?_
              refine ww_swap ?_
              refine ww_sub (lv1 := [(0, .ref b), (1, .ref (q 0)), (2, .ref (q2 0)), (3, .ref o), (4, .int x4)]) [0, 1, 2, 3, 4] rfl ?_
              exact ww_widen (by omega) (by omega) (kk _ _ _ R1)
            · exact absurd (by rw [ho hk0, if_neg c_11]; rfl) c_13
      · exact absurd hth c_9
set_option maxHeartbeats 4000000 in
set_option maxRecDepth 100000 in
theorem lc_3 {p : Program} {l : Launch} {e : Env} {s : State} {m : MethodId} {below : List Frame} {meth : Method} {c : Code} {D : va_G} {q q2 : Nat → Nat} {o : Nat} {cA cL : ClassId} {b L : Nat} {xs : Nat → Int32} (C : LC p l s m meth c D q q2 o cA cL b L xs) {cells slots : Nat} (hcs : cells + 1 ≤ room_1.cells ∧ slots + 6 ≤ room_1.slots) {x4 : Int32} (h1 : vp_in (x4 + 1) L) (h2 : vp_in (x4 + 2) L) (h3 : vp_in (x4 + 3) L) (h4 : vp_in (x4 + 4) L) (h5 : vp_in (x4 + 5) L) {σ τ : SS} (f : Nat → Int64) {j : Nat} (hj : j < 512) (R : Rel j σ τ) (kk : ∀ (σ1 τ1 : SS) (f1 : Nat → Int64), Rel (j + 1) σ1 τ1 → LW p l e s m below meth c D q q2 o cA cL b (cells + 1) (slots + 6) σ1 τ1 f1 1434 x4) : LW p l e s m below meth c D q q2 o cA cL b cells slots σ τ f 442 x4 := by
  obtain ⟨hx, hb, hr, hlk, hml, hown, hts, hK, hN, hZ, hX, hbl, hDD, hl0⟩ := C
  have hK1 : va_K D vwCl [(cA, .int)] s := hK.sub [0] rfl
  have hA : ∀ q : Nat, s.heap.size ≤ q → (fun q : Nat => s.heap.size ≤ q) q := fun _ h => h
  have hbA : ¬ (fun q : Nat => s.heap.size ≤ q) b := Nat.not_le.mpr hbl
  refine ww_aload_n hx hb dL_law_442 rfl 1 rfl ?_
  refine ww_aload_n hx hb dL_law_443 rfl 0 rfl ?_
  refine ww_iload hx hb dL_law_444 4 rfl ?_
  refine ww_iconst (v := 1) hx hb dL_law_446 (by decide) ?_
  refine ww_iadd hx hb dL_law_447 ?_
  refine ww_sld hx hb hX hbl hbA h1 dL_law_448 ?_
  refine ww_aload_n hx hb dL_law_449 rfl 0 rfl ?_
  refine ww_iload hx hb dL_law_450 4 rfl ?_
  refine ww_iconst (v := 2) hx hb dL_law_452 (by decide) ?_
  refine ww_iadd hx hb dL_law_453 ?_
  refine ww_sld hx hb hX hbl hbA h2 dL_law_454 ?_
  refine ww_aload_n hx hb dL_law_455 rfl 3 rfl ?_
  obtain ⟨r, σ1, bb, τ1, e1, e2, R1, ag⟩ := st_setRates hj R (xs (Int32.toNatClampNeg (x4 + 1))) (xs (Int32.toNatClampNeg (x4 + 2)))
  obtain ⟨k, f1, hk, hth, ho⟩ := agr_int ag f
  refine ww_callH hx hb hml hown hts hK hN hA hZ (WR q2 cA τ) [.ref (q 0), .int (xs (Int32.toNatClampNeg (x4 + 1))), .int (xs (Int32.toNatClampNeg (x4 + 2))), .ref o] [] (mL_setRates hl0 σ (xs (Int32.toNatClampNeg (x4 + 1))) (xs (Int32.toNatClampNeg (x4 + 2))) f r σ1 e1 k f1 hk) cs_L_93 rfl (by decide) hcs rfl (hDD _ _ _) rfl rfl (Nat.le_of_ble_eq_true rfl) dL_law_456 ?_
  refine ww_istore (i := 5) (lv1 := [(0, .ref b), (1, .ref (q 0)), (2, .ref (q2 0)), (3, .ref o), (4, .int x4), (5, .int k)]) hx hb dL_law_459 (by decide) [1, 2, 3, 4, 5, 0] rfl ?_
  refine ww_aload_n hx hb dL_law_461 rfl 2 rfl ?_
  refine ww_aload_n hx hb dL_law_462 rfl 0 rfl ?_
  refine ww_iload hx hb dL_law_463 4 rfl ?_
  refine ww_iconst (v := 1) hx hb dL_law_465 (by decide) ?_
  refine ww_iadd hx hb dL_law_466 ?_
  refine ww_sld hx hb hX hbl hbA h1 dL_law_467 ?_
  refine ww_aload_n hx hb dL_law_468 rfl 0 rfl ?_
  refine ww_iload hx hb dL_law_469 4 rfl ?_
  refine ww_iconst (v := 2) hx hb dL_law_471 (by decide) ?_
  refine ww_iadd hx hb dL_law_472 ?_
  refine ww_sld hx hb hX hbl hbA h2 dL_law_473 ?_
  refine ww_swap ?_
  refine ww_callVF hx hb hml hown hts hN hA hK1 hcs.1 hcs.2 (WO o cL f1 ++ WC q cA σ1) [.int (xs (Int32.toNatClampNeg (x4 + 1))), .int (xs (Int32.toNatClampNeg (x4 + 2)))] [] (m_X5_setRates τ (xs (Int32.toNatClampNeg (x4 + 1))) (xs (Int32.toNatClampNeg (x4 + 2))) _ τ1 e2) cs_L_96 rfl (by decide) rfl ((hDD _ _ _).sw) rfl 0 rfl rfl rfl (Nat.le_of_ble_eq_true rfl) dL_law_474 ?_
  refine ww_istore (i := 6) (lv1 := [(0, .ref b), (1, .ref (q 0)), (2, .ref (q2 0)), (3, .ref o), (4, .int x4), (5, .int k), (6, .int bb)]) hx hb dL_law_477 (by decide) [1, 2, 3, 4, 5, 6, 0] rfl ?_
  refine ww_aload_n hx hb dL_law_479 rfl 2 rfl ?_
  refine ww_callVF hx hb hml hown hts hN hA hK1 hcs.1 hcs.2 (WO o cL f1 ++ WC q cA σ1) [] [] (m_X5_thrown τ1) cs_L_83 rfl (by decide) rfl ((hDD _ _ _).sw) rfl 0 rfl rfl rfl (Nat.le_of_ble_eq_true rfl) dL_law_480 ?_
  refine ww_iload hx hb dL_law_483 5 rfl ?_
  refine ww_eq2 (tgt := 490) hx hb dL_law_485 (by decide) (fun c_1 => ?_) (fun c_1 => ?_)
  · refine ww_iload hx hb dL_law_490 5 rfl ?_
    refine ww_ne0 (tgt := 507) hx hb dL_law_492 (by decide) (fun hk0 => ?_) (fun hk0 => ?_)
    · refine ww_goto (tgt := 1434) hx hb dL_law_507 (by decide) ?_
      refine ww_swap ?_
      refine ww_sub (lv1 := [(0, .ref b), (1, .ref (q 0)), (2, .ref (q2 0)), (3, .ref o), (4, .int x4)]) [0, 1, 2, 3, 4] rfl ?_
      exact ww_widen (by omega) (by omega) (kk _ _ _ R1)
    · refine ww_aload_n hx hb dL_law_495 rfl 3 rfl ?_
      refine ww_iconst (v := 0) hx hb dL_law_496 (by decide) ?_
      refine ww_lald (i := 0) hx hb hown hts hK 0 1 rfl rfl in0 dL_law_497 ?_
      refine ww_iload hx hb dL_law_498 6 rfl ?_
      refine ww_i2l hx hb dL_law_500 ?_
      refine ww_lcmp hx hb dL_law_501 ?_
      refine ww_eq0 (tgt := 507) hx hb dL_law_502 (by decide) (fun c_3 => ?_) (fun c_3 => ?_)
      · refine ww_goto (tgt := 1434) hx hb dL_law_507 (by decide) ?_
        refine ww_swap ?_
        refine ww_sub (lv1 := [(0, .ref b), (1, .ref (q 0)), (2, .ref (q2 0)), (3, .ref o), (4, .int x4)]) [0, 1, 2, 3, 4] rfl ?_
        exact ww_widen (by omega) (by omega) (kk _ _ _ R1)
      · exact absurd (by rw [ho hk0]; exact lg_cmp_self _) c_3
  · exact absurd hth c_1
set_option maxHeartbeats 4000000 in
set_option maxRecDepth 100000 in
theorem lc_4 {p : Program} {l : Launch} {e : Env} {s : State} {m : MethodId} {below : List Frame} {meth : Method} {c : Code} {D : va_G} {q q2 : Nat → Nat} {o : Nat} {cA cL : ClassId} {b L : Nat} {xs : Nat → Int32} (C : LC p l s m meth c D q q2 o cA cL b L xs) {cells slots : Nat} (hcs : cells + 1 ≤ room_1.cells ∧ slots + 6 ≤ room_1.slots) {x4 : Int32} (h1 : vp_in (x4 + 1) L) (h2 : vp_in (x4 + 2) L) (h3 : vp_in (x4 + 3) L) (h4 : vp_in (x4 + 4) L) (h5 : vp_in (x4 + 5) L) {σ τ : SS} (f : Nat → Int64) {j : Nat} (hj : j < 512) (R : Rel j σ τ) (kk : ∀ (σ1 τ1 : SS) (f1 : Nat → Int64), Rel (j + 1) σ1 τ1 → LW p l e s m below meth c D q q2 o cA cL b (cells + 1) (slots + 6) σ1 τ1 f1 1434 x4) : LW p l e s m below meth c D q q2 o cA cL b cells slots σ τ f 510 x4 := by
  obtain ⟨hx, hb, hr, hlk, hml, hown, hts, hK, hN, hZ, hX, hbl, hDD, hl0⟩ := C
  have hK1 : va_K D vwCl [(cA, .int)] s := hK.sub [0] rfl
  have hA : ∀ q : Nat, s.heap.size ≤ q → (fun q : Nat => s.heap.size ≤ q) q := fun _ h => h
  have hbA : ¬ (fun q : Nat => s.heap.size ≤ q) b := Nat.not_le.mpr hbl
  refine ww_aload_n hx hb dL_law_510 rfl 1 rfl ?_
  refine ww_aload_n hx hb dL_law_511 rfl 0 rfl ?_
  refine ww_iload hx hb dL_law_512 4 rfl ?_
  refine ww_iconst (v := 1) hx hb dL_law_514 (by decide) ?_
  refine ww_iadd hx hb dL_law_515 ?_
  refine ww_sld hx hb hX hbl hbA h1 dL_law_516 ?_
  refine ww_eq0 (tgt := 524) hx hb dL_law_517 (by decide) (fun c_1 => ?_) (fun c_1 => ?_)
  · refine ww_iconst (v := 0) hx hb dL_law_524 (by decide) ?_
    obtain ⟨r, σ1, τ1, e1, e2, R1⟩ := st_hold hj R (0 : Int32) (Or.inl rfl)
    refine ww_callVF hx hb hml hown hts hN hA hK1 (Nat.le_trans (Nat.le_add_right _ _) hcs.1) (Nat.le_trans (Nat.le_add_right _ _) hcs.2) (WR q2 cA τ ++ WO o cL f) [.int (0 : Int32)] [] (m_X4_hold σ (0 : Int32) r σ1 e1) cs_L_97 rfl (by decide) (List.append_assoc _ _ _).symm (hDD _ _ _) rfl 0 rfl rfl rfl (Nat.le_of_ble_eq_true rfl) dL_law_525 ?_
    refine ww_eq (List.append_assoc _ _ _) ?_
    refine ww_aload_n hx hb dL_law_528 rfl 2 rfl ?_
    refine ww_aload_n hx hb dL_law_529 rfl 0 rfl ?_
    refine ww_iload hx hb dL_law_530 4 rfl ?_
    refine ww_iconst (v := 1) hx hb dL_law_532 (by decide) ?_
    refine ww_iadd hx hb dL_law_533 ?_
    refine ww_sld hx hb hX hbl hbA h1 dL_law_534 ?_
    refine ww_eq0 (tgt := 542) hx hb dL_law_535 (by decide) (fun c_2 => ?_) (fun c_2 => ?_)
    · refine ww_iconst (v := 0) hx hb dL_law_542 (by decide) ?_
      refine ww_swap ?_
      refine ww_callVF hx hb hml hown hts hN hA hK1 (Nat.le_trans (Nat.le_add_right _ _) hcs.1) (Nat.le_trans (Nat.le_add_right _ _) hcs.2) (WO o cL f ++ WC q cA σ1) [.int (0 : Int32)] [.int r] (m_X5_hold τ (0 : Int32) _ τ1 e2) cs_L_101 rfl (by decide) rfl ((hDD _ _ _).sw) rfl 0 rfl rfl rfl (Nat.le_of_ble_eq_true rfl) dL_law_543 ?_
      refine ww_eq2 (tgt := 1434) hx hb dL_law_546 (by decide) (fun c_3 => ?_) (fun c_3 => ?_)
      · refine ww_swap ?_
        refine ww_sub (lv1 := [(0, .ref b), (1, .ref (q 0)), (2, .ref (q2 0)), (3, .ref o), (4, .int x4)]) [0, 1, 2, 3, 4] rfl ?_
        exact ww_widen (by omega) (by omega) (kk _ _ _ R1)
      · exact absurd rfl c_3
    · exact absurd c_1 c_2
  · refine ww_iconst (v := 1) hx hb dL_law_520 (by decide) ?_
    refine ww_goto (tgt := 525) hx hb dL_law_521 (by decide) ?_
    obtain ⟨r, σ1, τ1, e1, e2, R1⟩ := st_hold hj R (1 : Int32) (Or.inr rfl)
    refine ww_callVF hx hb hml hown hts hN hA hK1 (Nat.le_trans (Nat.le_add_right _ _) hcs.1) (Nat.le_trans (Nat.le_add_right _ _) hcs.2) (WR q2 cA τ ++ WO o cL f) [.int (1 : Int32)] [] (m_X4_hold σ (1 : Int32) r σ1 e1) cs_L_97 rfl (by decide) (List.append_assoc _ _ _).symm (hDD _ _ _) rfl 0 rfl rfl rfl (Nat.le_of_ble_eq_true rfl) dL_law_525 ?_
    refine ww_eq (List.append_assoc _ _ _) ?_
    refine ww_aload_n hx hb dL_law_528 rfl 2 rfl ?_
    refine ww_aload_n hx hb dL_law_529 rfl 0 rfl ?_
    refine ww_iload hx hb dL_law_530 4 rfl ?_
    refine ww_iconst (v := 1) hx hb dL_law_532 (by decide) ?_
    refine ww_iadd hx hb dL_law_533 ?_
    refine ww_sld hx hb hX hbl hbA h1 dL_law_534 ?_
    refine ww_eq0 (tgt := 542) hx hb dL_law_535 (by decide) (fun c_4 => ?_) (fun c_4 => ?_)
    · exact absurd c_4 c_1
    · refine ww_iconst (v := 1) hx hb dL_law_538 (by decide) ?_
      refine ww_goto (tgt := 543) hx hb dL_law_539 (by decide) ?_
      refine ww_swap ?_
      refine ww_callVF hx hb hml hown hts hN hA hK1 (Nat.le_trans (Nat.le_add_right _ _) hcs.1) (Nat.le_trans (Nat.le_add_right _ _) hcs.2) (WO o cL f ++ WC q cA σ1) [.int (1 : Int32)] [.int r] (m_X5_hold τ (1 : Int32) _ τ1 e2) cs_L_101 rfl (by decide) rfl ((hDD _ _ _).sw) rfl 0 rfl rfl rfl (Nat.le_of_ble_eq_true rfl) dL_law_543 ?_
      refine ww_eq2 (tgt := 1434) hx hb dL_law_546 (by decide) (fun c_5 => ?_) (fun c_5 => ?_)
      · refine ww_swap ?_
        refine ww_sub (lv1 := [(0, .ref b), (1, .ref (q 0)), (2, .ref (q2 0)), (3, .ref o), (4, .int x4)]) [0, 1, 2, 3, 4] rfl ?_
        exact ww_widen (by omega) (by omega) (kk _ _ _ R1)
      · exact absurd rfl c_5
set_option maxHeartbeats 4000000 in
set_option maxRecDepth 100000 in
theorem lc_5 {p : Program} {l : Launch} {e : Env} {s : State} {m : MethodId} {below : List Frame} {meth : Method} {c : Code} {D : va_G} {q q2 : Nat → Nat} {o : Nat} {cA cL : ClassId} {b L : Nat} {xs : Nat → Int32} (C : LC p l s m meth c D q q2 o cA cL b L xs) {cells slots : Nat} (hcs : cells + 1 ≤ room_1.cells ∧ slots + 6 ≤ room_1.slots) {x4 : Int32} (h1 : vp_in (x4 + 1) L) (h2 : vp_in (x4 + 2) L) (h3 : vp_in (x4 + 3) L) (h4 : vp_in (x4 + 4) L) (h5 : vp_in (x4 + 5) L) {σ τ : SS} (f : Nat → Int64) {j : Nat} (hj : j < 512) (R : Rel j σ τ) (kk : ∀ (σ1 τ1 : SS) (f1 : Nat → Int64), Rel (j + 1) σ1 τ1 → LW p l e s m below meth c D q q2 o cA cL b (cells + 1) (slots + 6) σ1 τ1 f1 1434 x4) : LW p l e s m below meth c D q q2 o cA cL b cells slots σ τ f 551 x4 := by
  obtain ⟨hx, hb, hr, hlk, hml, hown, hts, hK, hN, hZ, hX, hbl, hDD, hl0⟩ := C
  have hK1 : va_K D vwCl [(cA, .int)] s := hK.sub [0] rfl
  have hA : ∀ q : Nat, s.heap.size ≤ q → (fun q : Nat => s.heap.size ≤ q) q := fun _ h => h
  have hbA : ¬ (fun q : Nat => s.heap.size ≤ q) b := Nat.not_le.mpr hbl
  refine ww_aload_n hx hb dL_law_551 rfl 1 rfl ?_
  refine ww_aload_n hx hb dL_law_552 rfl 0 rfl ?_
  refine ww_iload hx hb dL_law_553 4 rfl ?_
  refine ww_iconst (v := 1) hx hb dL_law_555 (by decide) ?_
  refine ww_iadd hx hb dL_law_556 ?_
  refine ww_sld hx hb hX hbl hbA h1 dL_law_557 ?_
  refine ww_eq0 (tgt := 565) hx hb dL_law_558 (by decide) (fun c_1 => ?_) (fun c_1 => ?_)
  · refine ww_iconst (v := 0) hx hb dL_law_565 (by decide) ?_
    refine ww_aload_n hx hb dL_law_566 rfl 3 rfl ?_
    obtain ⟨r, σ1, bb, τ1, e1, e2, R1, ag⟩ := st_shoot hj R (0 : Int32) (Or.inl rfl)
    obtain ⟨k, f1, hk, hth, ho⟩ := agr_int ag f
    refine ww_callH hx hb hml hown hts hK hN hA hZ (WR q2 cA τ) [.ref (q 0), .int (0 : Int32), .ref o] [] (mL_shoot hl0 σ (0 : Int32) f r σ1 e1 k f1 hk) cs_L_102 rfl (by decide) hcs rfl (hDD _ _ _) rfl rfl (Nat.le_of_ble_eq_true rfl) dL_law_567 ?_
    refine ww_istore (i := 5) (lv1 := [(0, .ref b), (1, .ref (q 0)), (2, .ref (q2 0)), (3, .ref o), (4, .int x4), (5, .int k)]) hx hb dL_law_570 (by decide) [1, 2, 3, 4, 5, 0] rfl ?_
    refine ww_aload_n hx hb dL_law_572 rfl 2 rfl ?_
    refine ww_aload_n hx hb dL_law_573 rfl 0 rfl ?_
    refine ww_iload hx hb dL_law_574 4 rfl ?_
    refine ww_iconst (v := 1) hx hb dL_law_576 (by decide) ?_
    refine ww_iadd hx hb dL_law_577 ?_
    refine ww_sld hx hb hX hbl hbA h1 dL_law_578 ?_
    refine ww_eq0 (tgt := 586) hx hb dL_law_579 (by decide) (fun c_2 => ?_) (fun c_2 => ?_)
    · refine ww_iconst (v := 0) hx hb dL_law_586 (by decide) ?_
      refine ww_swap ?_
      refine ww_callVF hx hb hml hown hts hN hA hK1 hcs.1 hcs.2 (WO o cL f1 ++ WC q cA σ1) [.int (0 : Int32)] [] (m_X5_shoot τ (0 : Int32) _ τ1 e2) cs_L_105 rfl (by decide) rfl ((hDD _ _ _).sw) rfl 0 rfl rfl rfl (Nat.le_of_ble_eq_true rfl) dL_law_587 ?_
      refine ww_istore (i := 6) (lv1 := [(0, .ref b), (1, .ref (q 0)), (2, .ref (q2 0)), (3, .ref o), (4, .int x4), (5, .int k), (6, .int bb)]) hx hb dL_law_590 (by decide) [1, 2, 3, 4, 5, 6, 0] rfl ?_
      refine ww_aload_n hx hb dL_law_592 rfl 2 rfl ?_
      refine ww_callVF hx hb hml hown hts hN hA hK1 hcs.1 hcs.2 (WO o cL f1 ++ WC q cA σ1) [] [] (m_X5_thrown τ1) cs_L_83 rfl (by decide) rfl ((hDD _ _ _).sw) rfl 0 rfl rfl rfl (Nat.le_of_ble_eq_true rfl) dL_law_593 ?_
      refine ww_iload hx hb dL_law_596 5 rfl ?_
      refine ww_eq2 (tgt := 603) hx hb dL_law_598 (by decide) (fun c_3 => ?_) (fun c_3 => ?_)
      · refine ww_iload hx hb dL_law_603 5 rfl ?_
        refine ww_ne0 (tgt := 620) hx hb dL_law_605 (by decide) (fun hk0 => ?_) (fun hk0 => ?_)
        · refine ww_goto (tgt := 1434) hx hb dL_law_620 (by decide) ?_
          refine ww_swap ?_
          refine ww_sub (lv1 := [(0, .ref b), (1, .ref (q 0)), (2, .ref (q2 0)), (3, .ref o), (4, .int x4)]) [0, 1, 2, 3, 4] rfl ?_
          exact ww_widen (by omega) (by omega) (kk _ _ _ R1)
        · refine ww_aload_n hx hb dL_law_608 rfl 3 rfl ?_
          refine ww_iconst (v := 0) hx hb dL_law_609 (by decide) ?_
          refine ww_lald (i := 0) hx hb hown hts hK 0 1 rfl rfl in0 dL_law_610 ?_
          refine ww_iload hx hb dL_law_611 6 rfl ?_
          refine ww_i2l hx hb dL_law_613 ?_
          refine ww_lcmp hx hb dL_law_614 ?_
          refine ww_eq0 (tgt := 620) hx hb dL_law_615 (by decide) (fun c_5 => ?_) (fun c_5 => ?_)
          · refine ww_goto (tgt := 1434) hx hb dL_law_620 (by decide) ?_
            refine ww_swap ?_
            refine ww_sub (lv1 := [(0, .ref b), (1, .ref (q 0)), (2, .ref (q2 0)), (3, .ref o), (4, .int x4)]) [0, 1, 2, 3, 4] rfl ?_
            exact ww_widen (by omega) (by omega) (kk _ _ _ R1)
          · exact absurd (by rw [ho hk0]; exact lg_cmp_self _) c_5
      · exact absurd hth c_3
    · exact absurd c_1 c_2
  · refine ww_iconst (v := 1) hx hb dL_law_561 (by decide) ?_
    refine ww_goto (tgt := 566) hx hb dL_law_562 (by decide) ?_
    refine ww_aload_n hx hb dL_law_566 rfl 3 rfl ?_
    obtain ⟨r, σ1, bb, τ1, e1, e2, R1, ag⟩ := st_shoot hj R (1 : Int32) (Or.inr rfl)
    obtain ⟨k, f1, hk, hth, ho⟩ := agr_int ag f
    refine ww_callH hx hb hml hown hts hK hN hA hZ (WR q2 cA τ) [.ref (q 0), .int (1 : Int32), .ref o] [] (mL_shoot hl0 σ (1 : Int32) f r σ1 e1 k f1 hk) cs_L_102 rfl (by decide) hcs rfl (hDD _ _ _) rfl rfl (Nat.le_of_ble_eq_true rfl) dL_law_567 ?_
    refine ww_istore (i := 5) (lv1 := [(0, .ref b), (1, .ref (q 0)), (2, .ref (q2 0)), (3, .ref o), (4, .int x4), (5, .int k)]) hx hb dL_law_570 (by decide) [1, 2, 3, 4, 5, 0] rfl ?_
    refine ww_aload_n hx hb dL_law_572 rfl 2 rfl ?_
    refine ww_aload_n hx hb dL_law_573 rfl 0 rfl ?_
    refine ww_iload hx hb dL_law_574 4 rfl ?_
    refine ww_iconst (v := 1) hx hb dL_law_576 (by decide) ?_
    refine ww_iadd hx hb dL_law_577 ?_
    refine ww_sld hx hb hX hbl hbA h1 dL_law_578 ?_
    refine ww_eq0 (tgt := 586) hx hb dL_law_579 (by decide) (fun c_6 => ?_) (fun c_6 => ?_)
    · exact absurd c_6 c_1
    · refine ww_iconst (v := 1) hx hb dL_law_582 (by decide) ?_
      refine ww_goto (tgt := 587) hx hb dL_law_583 (by decide) ?_
      refine ww_swap ?_
      refine ww_callVF hx hb hml hown hts hN hA hK1 hcs.1 hcs.2 (WO o cL f1 ++ WC q cA σ1) [.int (1 : Int32)] [] (m_X5_shoot τ (1 : Int32) _ τ1 e2) cs_L_105 rfl (by decide) rfl ((hDD _ _ _).sw) rfl 0 rfl rfl rfl (Nat.le_of_ble_eq_true rfl) dL_law_587 ?_
      refine ww_istore (i := 6) (lv1 := [(0, .ref b), (1, .ref (q 0)), (2, .ref (q2 0)), (3, .ref o), (4, .int x4), (5, .int k), (6, .int bb)]) hx hb dL_law_590 (by decide) [1, 2, 3, 4, 5, 6, 0] rfl ?_
      refine ww_aload_n hx hb dL_law_592 rfl 2 rfl ?_
      refine ww_callVF hx hb hml hown hts hN hA hK1 hcs.1 hcs.2 (WO o cL f1 ++ WC q cA σ1) [] [] (m_X5_thrown τ1) cs_L_83 rfl (by decide) rfl ((hDD _ _ _).sw) rfl 0 rfl rfl rfl (Nat.le_of_ble_eq_true rfl) dL_law_593 ?_
      refine ww_iload hx hb dL_law_596 5 rfl ?_
      refine ww_eq2 (tgt := 603) hx hb dL_law_598 (by decide) (fun c_7 => ?_) (fun c_7 => ?_)
      · refine ww_iload hx hb dL_law_603 5 rfl ?_
        refine ww_ne0 (tgt := 620) hx hb dL_law_605 (by decide) (fun hk0 => ?_) (fun hk0 => ?_)
        · refine ww_goto (tgt := 1434) hx hb dL_law_620 (by decide) ?_
          refine ww_swap ?_
          refine ww_sub (lv1 := [(0, .ref b), (1, .ref (q 0)), (2, .ref (q2 0)), (3, .ref o), (4, .int x4)]) [0, 1, 2, 3, 4] rfl ?_
          exact ww_widen (by omega) (by omega) (kk _ _ _ R1)
        · refine ww_aload_n hx hb dL_law_608 rfl 3 rfl ?_
          refine ww_iconst (v := 0) hx hb dL_law_609 (by decide) ?_
          refine ww_lald (i := 0) hx hb hown hts hK 0 1 rfl rfl in0 dL_law_610 ?_
          refine ww_iload hx hb dL_law_611 6 rfl ?_
          refine ww_i2l hx hb dL_law_613 ?_
          refine ww_lcmp hx hb dL_law_614 ?_
          refine ww_eq0 (tgt := 620) hx hb dL_law_615 (by decide) (fun c_9 => ?_) (fun c_9 => ?_)
          · refine ww_goto (tgt := 1434) hx hb dL_law_620 (by decide) ?_
            refine ww_swap ?_
            refine ww_sub (lv1 := [(0, .ref b), (1, .ref (q 0)), (2, .ref (q2 0)), (3, .ref o), (4, .int x4)]) [0, 1, 2, 3, 4] rfl ?_
            exact ww_widen (by omega) (by omega) (kk _ _ _ R1)
          · exact absurd (by rw [ho hk0]; exact lg_cmp_self _) c_9
      · exact absurd hth c_7
set_option maxHeartbeats 4000000 in
set_option maxRecDepth 100000 in
theorem lc_6 {p : Program} {l : Launch} {e : Env} {s : State} {m : MethodId} {below : List Frame} {meth : Method} {c : Code} {D : va_G} {q q2 : Nat → Nat} {o : Nat} {cA cL : ClassId} {b L : Nat} {xs : Nat → Int32} (C : LC p l s m meth c D q q2 o cA cL b L xs) {cells slots : Nat} (hcs : cells + 1 ≤ room_1.cells ∧ slots + 6 ≤ room_1.slots) {x4 : Int32} (h1 : vp_in (x4 + 1) L) (h2 : vp_in (x4 + 2) L) (h3 : vp_in (x4 + 3) L) (h4 : vp_in (x4 + 4) L) (h5 : vp_in (x4 + 5) L) {σ τ : SS} (f : Nat → Int64) {j : Nat} (hj : j < 512) (R : Rel j σ τ) (kk : ∀ (σ1 τ1 : SS) (f1 : Nat → Int64), Rel (j + 1) σ1 τ1 → LW p l e s m below meth c D q q2 o cA cL b (cells + 1) (slots + 6) σ1 τ1 f1 1434 x4) : LW p l e s m below meth c D q q2 o cA cL b cells slots σ τ f 623 x4 := by
  obtain ⟨hx, hb, hr, hlk, hml, hown, hts, hK, hN, hZ, hX, hbl, hDD, hl0⟩ := C
  have hK1 : va_K D vwCl [(cA, .int)] s := hK.sub [0] rfl
  have hA : ∀ q : Nat, s.heap.size ≤ q → (fun q : Nat => s.heap.size ≤ q) q := fun _ h => h
  have hbA : ¬ (fun q : Nat => s.heap.size ≤ q) b := Nat.not_le.mpr hbl
  refine ww_aload_n hx hb dL_law_623 rfl 1 rfl ?_
  refine ww_aload_n hx hb dL_law_624 rfl 0 rfl ?_
  refine ww_iload hx hb dL_law_625 4 rfl ?_
  refine ww_iconst (v := 1) hx hb dL_law_627 (by decide) ?_
  refine ww_iadd hx hb dL_law_628 ?_
  refine ww_sld hx hb hX hbl hbA h1 dL_law_629 ?_
  refine ww_aload_n hx hb dL_law_630 rfl 0 rfl ?_
  refine ww_iload hx hb dL_law_631 4 rfl ?_
  refine ww_iconst (v := 2) hx hb dL_law_633 (by decide) ?_
  refine ww_iadd hx hb dL_law_634 ?_
  refine ww_sld hx hb hX hbl hbA h2 dL_law_635 ?_
  refine ww_aload_n hx hb dL_law_636 rfl 3 rfl ?_
  obtain ⟨r, σ1, bb, τ1, e1, e2, R1, ag⟩ := st_approve hj R (xs (Int32.toNatClampNeg (x4 + 1))) (xs (Int32.toNatClampNeg (x4 + 2)))
  obtain ⟨k, f1, hk, hth, ho⟩ := agr_int ag f
  refine ww_callH hx hb hml hown hts hK hN hA hZ (WR q2 cA τ) [.ref (q 0), .int (xs (Int32.toNatClampNeg (x4 + 1))), .int (xs (Int32.toNatClampNeg (x4 + 2))), .ref o] [] (mL_approve hl0 σ (xs (Int32.toNatClampNeg (x4 + 1))) (xs (Int32.toNatClampNeg (x4 + 2))) f r σ1 e1 k f1 hk) cs_L_106 rfl (by decide) hcs rfl (hDD _ _ _) rfl rfl (Nat.le_of_ble_eq_true rfl) dL_law_637 ?_
  refine ww_istore (i := 5) (lv1 := [(0, .ref b), (1, .ref (q 0)), (2, .ref (q2 0)), (3, .ref o), (4, .int x4), (5, .int k)]) hx hb dL_law_640 (by decide) [1, 2, 3, 4, 5, 0] rfl ?_
  refine ww_aload_n hx hb dL_law_642 rfl 2 rfl ?_
  refine ww_aload_n hx hb dL_law_643 rfl 0 rfl ?_
  refine ww_iload hx hb dL_law_644 4 rfl ?_
  refine ww_iconst (v := 1) hx hb dL_law_646 (by decide) ?_
  refine ww_iadd hx hb dL_law_647 ?_
  refine ww_sld hx hb hX hbl hbA h1 dL_law_648 ?_
  refine ww_aload_n hx hb dL_law_649 rfl 0 rfl ?_
  refine ww_iload hx hb dL_law_650 4 rfl ?_
  refine ww_iconst (v := 2) hx hb dL_law_652 (by decide) ?_
  refine ww_iadd hx hb dL_law_653 ?_
  refine ww_sld hx hb hX hbl hbA h2 dL_law_654 ?_
  refine ww_swap ?_
  refine ww_callVF hx hb hml hown hts hN hA hK1 hcs.1 hcs.2 (WO o cL f1 ++ WC q cA σ1) [.int (xs (Int32.toNatClampNeg (x4 + 1))), .int (xs (Int32.toNatClampNeg (x4 + 2)))] [] (m_X5_approve τ (xs (Int32.toNatClampNeg (x4 + 1))) (xs (Int32.toNatClampNeg (x4 + 2))) _ τ1 e2) cs_L_108 rfl (by decide) rfl ((hDD _ _ _).sw) rfl 0 rfl rfl rfl (Nat.le_of_ble_eq_true rfl) dL_law_655 ?_
  refine ww_istore (i := 6) (lv1 := [(0, .ref b), (1, .ref (q 0)), (2, .ref (q2 0)), (3, .ref o), (4, .int x4), (5, .int k), (6, .int bb)]) hx hb dL_law_658 (by decide) [1, 2, 3, 4, 5, 6, 0] rfl ?_
  refine ww_aload_n hx hb dL_law_660 rfl 2 rfl ?_
  refine ww_callVF hx hb hml hown hts hN hA hK1 hcs.1 hcs.2 (WO o cL f1 ++ WC q cA σ1) [] [] (m_X5_thrown τ1) cs_L_83 rfl (by decide) rfl ((hDD _ _ _).sw) rfl 0 rfl rfl rfl (Nat.le_of_ble_eq_true rfl) dL_law_661 ?_
  refine ww_iload hx hb dL_law_664 5 rfl ?_
  refine ww_eq2 (tgt := 671) hx hb dL_law_666 (by decide) (fun c_1 => ?_) (fun c_1 => ?_)
  · refine ww_iload hx hb dL_law_671 5 rfl ?_
    refine ww_ne0 (tgt := 688) hx hb dL_law_673 (by decide) (fun hk0 => ?_) (fun hk0 => ?_)
    · refine ww_goto (tgt := 1434) hx hb dL_law_688 (by decide) ?_
      refine ww_swap ?_
      refine ww_sub (lv1 := [(0, .ref b), (1, .ref (q 0)), (2, .ref (q2 0)), (3, .ref o), (4, .int x4)]) [0, 1, 2, 3, 4] rfl ?_
      exact ww_widen (by omega) (by omega) (kk _ _ _ R1)
    · refine ww_aload_n hx hb dL_law_676 rfl 3 rfl ?_
      refine ww_iconst (v := 0) hx hb dL_law_677 (by decide) ?_
      refine ww_lald (i := 0) hx hb hown hts hK 0 1 rfl rfl in0 dL_law_678 ?_
      refine ww_iload hx hb dL_law_679 6 rfl ?_
      refine ww_i2l hx hb dL_law_681 ?_
      refine ww_lcmp hx hb dL_law_682 ?_
      refine ww_eq0 (tgt := 688) hx hb dL_law_683 (by decide) (fun c_3 => ?_) (fun c_3 => ?_)
      · refine ww_goto (tgt := 1434) hx hb dL_law_688 (by decide) ?_
        refine ww_swap ?_
        refine ww_sub (lv1 := [(0, .ref b), (1, .ref (q 0)), (2, .ref (q2 0)), (3, .ref o), (4, .int x4)]) [0, 1, 2, 3, 4] rfl ?_
        exact ww_widen (by omega) (by omega) (kk _ _ _ R1)
      · exact absurd (by rw [ho hk0]; exact lg_cmp_self _) c_3
  · exact absurd hth c_1
set_option maxHeartbeats 4000000 in
set_option maxRecDepth 100000 in
theorem lc_7 {p : Program} {l : Launch} {e : Env} {s : State} {m : MethodId} {below : List Frame} {meth : Method} {c : Code} {D : va_G} {q q2 : Nat → Nat} {o : Nat} {cA cL : ClassId} {b L : Nat} {xs : Nat → Int32} (C : LC p l s m meth c D q q2 o cA cL b L xs) {cells slots : Nat} (hcs : cells + 1 ≤ room_1.cells ∧ slots + 6 ≤ room_1.slots) {x4 : Int32} (h1 : vp_in (x4 + 1) L) (h2 : vp_in (x4 + 2) L) (h3 : vp_in (x4 + 3) L) (h4 : vp_in (x4 + 4) L) (h5 : vp_in (x4 + 5) L) {σ τ : SS} (f : Nat → Int64) {j : Nat} (hj : j < 512) (R : Rel j σ τ) (kk : ∀ (σ1 τ1 : SS) (f1 : Nat → Int64), Rel (j + 1) σ1 τ1 → LW p l e s m below meth c D q q2 o cA cL b (cells + 1) (slots + 6) σ1 τ1 f1 1434 x4) : LW p l e s m below meth c D q q2 o cA cL b cells slots σ τ f 691 x4 := by
  obtain ⟨hx, hb, hr, hlk, hml, hown, hts, hK, hN, hZ, hX, hbl, hDD, hl0⟩ := C
  have hK1 : va_K D vwCl [(cA, .int)] s := hK.sub [0] rfl
  have hA : ∀ q : Nat, s.heap.size ≤ q → (fun q : Nat => s.heap.size ≤ q) q := fun _ h => h
  have hbA : ¬ (fun q : Nat => s.heap.size ≤ q) b := Nat.not_le.mpr hbl
  refine ww_aload_n hx hb dL_law_691 rfl 1 rfl ?_
  refine ww_aload_n hx hb dL_law_692 rfl 0 rfl ?_
  refine ww_iload hx hb dL_law_693 4 rfl ?_
  refine ww_iconst (v := 1) hx hb dL_law_695 (by decide) ?_
  refine ww_iadd hx hb dL_law_696 ?_
  refine ww_sld hx hb hX hbl hbA h1 dL_law_697 ?_
  refine ww_aload_n hx hb dL_law_698 rfl 3 rfl ?_
  obtain ⟨r, σ1, bb, τ1, e1, e2, R1, ag⟩ := st_grant hj R (xs (Int32.toNatClampNeg (x4 + 1)))
  obtain ⟨k, f1, hk, hth, ho⟩ := agr_int ag f
  refine ww_callH hx hb hml hown hts hK hN hA hZ (WR q2 cA τ) [.ref (q 0), .int (xs (Int32.toNatClampNeg (x4 + 1))), .ref o] [] (mL_grant hl0 σ (xs (Int32.toNatClampNeg (x4 + 1))) f r σ1 e1 k f1 hk) cs_L_109 rfl (by decide) hcs rfl (hDD _ _ _) rfl rfl (Nat.le_of_ble_eq_true rfl) dL_law_699 ?_
  refine ww_istore (i := 5) (lv1 := [(0, .ref b), (1, .ref (q 0)), (2, .ref (q2 0)), (3, .ref o), (4, .int x4), (5, .int k)]) hx hb dL_law_702 (by decide) [1, 2, 3, 4, 5, 0] rfl ?_
  refine ww_aload_n hx hb dL_law_704 rfl 2 rfl ?_
  refine ww_aload_n hx hb dL_law_705 rfl 0 rfl ?_
  refine ww_iload hx hb dL_law_706 4 rfl ?_
  refine ww_iconst (v := 1) hx hb dL_law_708 (by decide) ?_
  refine ww_iadd hx hb dL_law_709 ?_
  refine ww_sld hx hb hX hbl hbA h1 dL_law_710 ?_
  refine ww_swap ?_
  refine ww_callVF hx hb hml hown hts hN hA hK1 hcs.1 hcs.2 (WO o cL f1 ++ WC q cA σ1) [.int (xs (Int32.toNatClampNeg (x4 + 1)))] [] (m_X5_grant τ (xs (Int32.toNatClampNeg (x4 + 1))) _ τ1 e2) cs_L_112 rfl (by decide) rfl ((hDD _ _ _).sw) rfl 0 rfl rfl rfl (Nat.le_of_ble_eq_true rfl) dL_law_711 ?_
  refine ww_istore (i := 6) (lv1 := [(0, .ref b), (1, .ref (q 0)), (2, .ref (q2 0)), (3, .ref o), (4, .int x4), (5, .int k), (6, .int bb)]) hx hb dL_law_714 (by decide) [1, 2, 3, 4, 5, 6, 0] rfl ?_
  refine ww_aload_n hx hb dL_law_716 rfl 2 rfl ?_
  refine ww_callVF hx hb hml hown hts hN hA hK1 hcs.1 hcs.2 (WO o cL f1 ++ WC q cA σ1) [] [] (m_X5_thrown τ1) cs_L_83 rfl (by decide) rfl ((hDD _ _ _).sw) rfl 0 rfl rfl rfl (Nat.le_of_ble_eq_true rfl) dL_law_717 ?_
  refine ww_iload hx hb dL_law_720 5 rfl ?_
  refine ww_eq2 (tgt := 727) hx hb dL_law_722 (by decide) (fun c_1 => ?_) (fun c_1 => ?_)
  · refine ww_iload hx hb dL_law_727 5 rfl ?_
    refine ww_ne0 (tgt := 744) hx hb dL_law_729 (by decide) (fun hk0 => ?_) (fun hk0 => ?_)
    · refine ww_goto (tgt := 1434) hx hb dL_law_744 (by decide) ?_
      refine ww_swap ?_
      refine ww_sub (lv1 := [(0, .ref b), (1, .ref (q 0)), (2, .ref (q2 0)), (3, .ref o), (4, .int x4)]) [0, 1, 2, 3, 4] rfl ?_
      exact ww_widen (by omega) (by omega) (kk _ _ _ R1)
    · refine ww_aload_n hx hb dL_law_732 rfl 3 rfl ?_
      refine ww_iconst (v := 0) hx hb dL_law_733 (by decide) ?_
      refine ww_lald (i := 0) hx hb hown hts hK 0 1 rfl rfl in0 dL_law_734 ?_
      refine ww_iload hx hb dL_law_735 6 rfl ?_
      refine ww_i2l hx hb dL_law_737 ?_
      refine ww_lcmp hx hb dL_law_738 ?_
      refine ww_eq0 (tgt := 744) hx hb dL_law_739 (by decide) (fun c_3 => ?_) (fun c_3 => ?_)
      · refine ww_goto (tgt := 1434) hx hb dL_law_744 (by decide) ?_
        refine ww_swap ?_
        refine ww_sub (lv1 := [(0, .ref b), (1, .ref (q 0)), (2, .ref (q2 0)), (3, .ref o), (4, .int x4)]) [0, 1, 2, 3, 4] rfl ?_
        exact ww_widen (by omega) (by omega) (kk _ _ _ R1)
      · exact absurd (by rw [ho hk0]; exact lg_cmp_self _) c_3
  · exact absurd hth c_1
set_option maxHeartbeats 4000000 in
set_option maxRecDepth 100000 in
theorem lc_8 {p : Program} {l : Launch} {e : Env} {s : State} {m : MethodId} {below : List Frame} {meth : Method} {c : Code} {D : va_G} {q q2 : Nat → Nat} {o : Nat} {cA cL : ClassId} {b L : Nat} {xs : Nat → Int32} (C : LC p l s m meth c D q q2 o cA cL b L xs) {cells slots : Nat} (hcs : cells + 1 ≤ room_1.cells ∧ slots + 6 ≤ room_1.slots) {x4 : Int32} (h1 : vp_in (x4 + 1) L) (h2 : vp_in (x4 + 2) L) (h3 : vp_in (x4 + 3) L) (h4 : vp_in (x4 + 4) L) (h5 : vp_in (x4 + 5) L) {σ τ : SS} (f : Nat → Int64) {j : Nat} (hj : j < 512) (R : Rel j σ τ) (kk : ∀ (σ1 τ1 : SS) (f1 : Nat → Int64), Rel (j + 1) σ1 τ1 → LW p l e s m below meth c D q q2 o cA cL b (cells + 1) (slots + 6) σ1 τ1 f1 1434 x4) : LW p l e s m below meth c D q q2 o cA cL b cells slots σ τ f 747 x4 := by
  obtain ⟨hx, hb, hr, hlk, hml, hown, hts, hK, hN, hZ, hX, hbl, hDD, hl0⟩ := C
  have hK1 : va_K D vwCl [(cA, .int)] s := hK.sub [0] rfl
  have hA : ∀ q : Nat, s.heap.size ≤ q → (fun q : Nat => s.heap.size ≤ q) q := fun _ h => h
  have hbA : ¬ (fun q : Nat => s.heap.size ≤ q) b := Nat.not_le.mpr hbl
  refine ww_aload_n hx hb dL_law_747 rfl 1 rfl ?_
  refine ww_aload_n hx hb dL_law_748 rfl 0 rfl ?_
  refine ww_iload hx hb dL_law_749 4 rfl ?_
  refine ww_iconst (v := 1) hx hb dL_law_751 (by decide) ?_
  refine ww_iadd hx hb dL_law_752 ?_
  refine ww_sld hx hb hX hbl hbA h1 dL_law_753 ?_
  refine ww_aload_n hx hb dL_law_754 rfl 0 rfl ?_
  refine ww_iload hx hb dL_law_755 4 rfl ?_
  refine ww_iconst (v := 2) hx hb dL_law_757 (by decide) ?_
  refine ww_iadd hx hb dL_law_758 ?_
  refine ww_sld hx hb hX hbl hbA h2 dL_law_759 ?_
  refine ww_aload_n hx hb dL_law_760 rfl 3 rfl ?_
  obtain ⟨r, σ1, bb, τ1, e1, e2, R1, ag⟩ := st_bill hj R (xs (Int32.toNatClampNeg (x4 + 1))) (xs (Int32.toNatClampNeg (x4 + 2)))
  obtain ⟨k, f1, hk, hth, ho⟩ := agr_int ag f
  refine ww_callH hx hb hml hown hts hK hN hA hZ (WR q2 cA τ) [.ref (q 0), .int (xs (Int32.toNatClampNeg (x4 + 1))), .int (xs (Int32.toNatClampNeg (x4 + 2))), .ref o] [] (mL_bill hl0 σ (xs (Int32.toNatClampNeg (x4 + 1))) (xs (Int32.toNatClampNeg (x4 + 2))) f r σ1 e1 k f1 hk) cs_L_113 rfl (by decide) hcs rfl (hDD _ _ _) rfl rfl (Nat.le_of_ble_eq_true rfl) dL_law_761 ?_
  refine ww_istore (i := 5) (lv1 := [(0, .ref b), (1, .ref (q 0)), (2, .ref (q2 0)), (3, .ref o), (4, .int x4), (5, .int k)]) hx hb dL_law_764 (by decide) [1, 2, 3, 4, 5, 0] rfl ?_
  refine ww_aload_n hx hb dL_law_766 rfl 2 rfl ?_
  refine ww_aload_n hx hb dL_law_767 rfl 0 rfl ?_
  refine ww_iload hx hb dL_law_768 4 rfl ?_
  refine ww_iconst (v := 1) hx hb dL_law_770 (by decide) ?_
  refine ww_iadd hx hb dL_law_771 ?_
  refine ww_sld hx hb hX hbl hbA h1 dL_law_772 ?_
  refine ww_aload_n hx hb dL_law_773 rfl 0 rfl ?_
  refine ww_iload hx hb dL_law_774 4 rfl ?_
  refine ww_iconst (v := 2) hx hb dL_law_776 (by decide) ?_
  refine ww_iadd hx hb dL_law_777 ?_
  refine ww_sld hx hb hX hbl hbA h2 dL_law_778 ?_
  refine ww_swap ?_
  refine ww_callVF hx hb hml hown hts hN hA hK1 hcs.1 hcs.2 (WO o cL f1 ++ WC q cA σ1) [.int (xs (Int32.toNatClampNeg (x4 + 1))), .int (xs (Int32.toNatClampNeg (x4 + 2)))] [] (m_X5_bill τ (xs (Int32.toNatClampNeg (x4 + 1))) (xs (Int32.toNatClampNeg (x4 + 2))) _ τ1 e2) cs_L_115 rfl (by decide) rfl ((hDD _ _ _).sw) rfl 0 rfl rfl rfl (Nat.le_of_ble_eq_true rfl) dL_law_779 ?_
  refine ww_istore (i := 6) (lv1 := [(0, .ref b), (1, .ref (q 0)), (2, .ref (q2 0)), (3, .ref o), (4, .int x4), (5, .int k), (6, .int bb)]) hx hb dL_law_782 (by decide) [1, 2, 3, 4, 5, 6, 0] rfl ?_
  refine ww_aload_n hx hb dL_law_784 rfl 2 rfl ?_
  refine ww_callVF hx hb hml hown hts hN hA hK1 hcs.1 hcs.2 (WO o cL f1 ++ WC q cA σ1) [] [] (m_X5_thrown τ1) cs_L_83 rfl (by decide) rfl ((hDD _ _ _).sw) rfl 0 rfl rfl rfl (Nat.le_of_ble_eq_true rfl) dL_law_785 ?_
  refine ww_iload hx hb dL_law_788 5 rfl ?_
  refine ww_eq2 (tgt := 795) hx hb dL_law_790 (by decide) (fun c_1 => ?_) (fun c_1 => ?_)
  · refine ww_iload hx hb dL_law_795 5 rfl ?_
    refine ww_ne0 (tgt := 812) hx hb dL_law_797 (by decide) (fun hk0 => ?_) (fun hk0 => ?_)
    · refine ww_goto (tgt := 1434) hx hb dL_law_812 (by decide) ?_
      refine ww_swap ?_
      refine ww_sub (lv1 := [(0, .ref b), (1, .ref (q 0)), (2, .ref (q2 0)), (3, .ref o), (4, .int x4)]) [0, 1, 2, 3, 4] rfl ?_
      exact ww_widen (by omega) (by omega) (kk _ _ _ R1)
    · refine ww_aload_n hx hb dL_law_800 rfl 3 rfl ?_
      refine ww_iconst (v := 0) hx hb dL_law_801 (by decide) ?_
      refine ww_lald (i := 0) hx hb hown hts hK 0 1 rfl rfl in0 dL_law_802 ?_
      refine ww_iload hx hb dL_law_803 6 rfl ?_
      refine ww_i2l hx hb dL_law_805 ?_
      refine ww_lcmp hx hb dL_law_806 ?_
      refine ww_eq0 (tgt := 812) hx hb dL_law_807 (by decide) (fun c_3 => ?_) (fun c_3 => ?_)
      · refine ww_goto (tgt := 1434) hx hb dL_law_812 (by decide) ?_
        refine ww_swap ?_
        refine ww_sub (lv1 := [(0, .ref b), (1, .ref (q 0)), (2, .ref (q2 0)), (3, .ref o), (4, .int x4)]) [0, 1, 2, 3, 4] rfl ?_
        exact ww_widen (by omega) (by omega) (kk _ _ _ R1)
      · exact absurd (by rw [ho hk0]; exact lg_cmp_self _) c_3
  · exact absurd hth c_1
set_option maxHeartbeats 4000000 in
set_option maxRecDepth 100000 in
theorem lc_9 {p : Program} {l : Launch} {e : Env} {s : State} {m : MethodId} {below : List Frame} {meth : Method} {c : Code} {D : va_G} {q q2 : Nat → Nat} {o : Nat} {cA cL : ClassId} {b L : Nat} {xs : Nat → Int32} (C : LC p l s m meth c D q q2 o cA cL b L xs) {cells slots : Nat} (hcs : cells + 1 ≤ room_1.cells ∧ slots + 6 ≤ room_1.slots) {x4 : Int32} (h1 : vp_in (x4 + 1) L) (h2 : vp_in (x4 + 2) L) (h3 : vp_in (x4 + 3) L) (h4 : vp_in (x4 + 4) L) (h5 : vp_in (x4 + 5) L) {σ τ : SS} (f : Nat → Int64) {j : Nat} (hj : j < 512) (R : Rel j σ τ) (kk : ∀ (σ1 τ1 : SS) (f1 : Nat → Int64), Rel (j + 1) σ1 τ1 → LW p l e s m below meth c D q q2 o cA cL b (cells + 1) (slots + 6) σ1 τ1 f1 1434 x4) : LW p l e s m below meth c D q q2 o cA cL b cells slots σ τ f 815 x4 := by
  obtain ⟨hx, hb, hr, hlk, hml, hown, hts, hK, hN, hZ, hX, hbl, hDD, hl0⟩ := C
  have hK1 : va_K D vwCl [(cA, .int)] s := hK.sub [0] rfl
  have hA : ∀ q : Nat, s.heap.size ≤ q → (fun q : Nat => s.heap.size ≤ q) q := fun _ h => h
  have hbA : ¬ (fun q : Nat => s.heap.size ≤ q) b := Nat.not_le.mpr hbl
  refine ww_aload_n hx hb dL_law_815 rfl 1 rfl ?_
  refine ww_aload_n hx hb dL_law_816 rfl 0 rfl ?_
  refine ww_iload hx hb dL_law_817 4 rfl ?_
  refine ww_iconst (v := 1) hx hb dL_law_819 (by decide) ?_
  refine ww_iadd hx hb dL_law_820 ?_
  refine ww_sld hx hb hX hbl hbA h1 dL_law_821 ?_
  refine ww_aload_n hx hb dL_law_822 rfl 0 rfl ?_
  refine ww_iload hx hb dL_law_823 4 rfl ?_
  refine ww_iconst (v := 2) hx hb dL_law_825 (by decide) ?_
  refine ww_iadd hx hb dL_law_826 ?_
  refine ww_sld hx hb hX hbl hbA h2 dL_law_827 ?_
  refine ww_aload_n hx hb dL_law_828 rfl 3 rfl ?_
  obtain ⟨r, σ1, bb, τ1, e1, e2, R1, ag⟩ := st_loan hj R (xs (Int32.toNatClampNeg (x4 + 1))) (xs (Int32.toNatClampNeg (x4 + 2)))
  obtain ⟨k, f1, hk, hth, ho⟩ := agr_int ag f
  refine ww_callH hx hb hml hown hts hK hN hA hZ (WR q2 cA τ) [.ref (q 0), .int (xs (Int32.toNatClampNeg (x4 + 1))), .int (xs (Int32.toNatClampNeg (x4 + 2))), .ref o] [] (mL_loan hl0 σ (xs (Int32.toNatClampNeg (x4 + 1))) (xs (Int32.toNatClampNeg (x4 + 2))) f r σ1 e1 k f1 hk) cs_L_116 rfl (by decide) hcs rfl (hDD _ _ _) rfl rfl (Nat.le_of_ble_eq_true rfl) dL_law_829 ?_
  refine ww_istore (i := 5) (lv1 := [(0, .ref b), (1, .ref (q 0)), (2, .ref (q2 0)), (3, .ref o), (4, .int x4), (5, .int k)]) hx hb dL_law_832 (by decide) [1, 2, 3, 4, 5, 0] rfl ?_
  refine ww_aload_n hx hb dL_law_834 rfl 2 rfl ?_
  refine ww_aload_n hx hb dL_law_835 rfl 0 rfl ?_
  refine ww_iload hx hb dL_law_836 4 rfl ?_
  refine ww_iconst (v := 1) hx hb dL_law_838 (by decide) ?_
  refine ww_iadd hx hb dL_law_839 ?_
  refine ww_sld hx hb hX hbl hbA h1 dL_law_840 ?_
  refine ww_aload_n hx hb dL_law_841 rfl 0 rfl ?_
  refine ww_iload hx hb dL_law_842 4 rfl ?_
  refine ww_iconst (v := 2) hx hb dL_law_844 (by decide) ?_
  refine ww_iadd hx hb dL_law_845 ?_
  refine ww_sld hx hb hX hbl hbA h2 dL_law_846 ?_
  refine ww_swap ?_
  refine ww_callVF hx hb hml hown hts hN hA hK1 hcs.1 hcs.2 (WO o cL f1 ++ WC q cA σ1) [.int (xs (Int32.toNatClampNeg (x4 + 1))), .int (xs (Int32.toNatClampNeg (x4 + 2)))] [] (m_X5_loan τ (xs (Int32.toNatClampNeg (x4 + 1))) (xs (Int32.toNatClampNeg (x4 + 2))) _ τ1 e2) cs_L_118 rfl (by decide) rfl ((hDD _ _ _).sw) rfl 0 rfl rfl rfl (Nat.le_of_ble_eq_true rfl) dL_law_847 ?_
  refine ww_istore (i := 6) (lv1 := [(0, .ref b), (1, .ref (q 0)), (2, .ref (q2 0)), (3, .ref o), (4, .int x4), (5, .int k), (6, .int bb)]) hx hb dL_law_850 (by decide) [1, 2, 3, 4, 5, 6, 0] rfl ?_
  refine ww_aload_n hx hb dL_law_852 rfl 2 rfl ?_
  refine ww_callVF hx hb hml hown hts hN hA hK1 hcs.1 hcs.2 (WO o cL f1 ++ WC q cA σ1) [] [] (m_X5_thrown τ1) cs_L_83 rfl (by decide) rfl ((hDD _ _ _).sw) rfl 0 rfl rfl rfl (Nat.le_of_ble_eq_true rfl) dL_law_853 ?_
  refine ww_iload hx hb dL_law_856 5 rfl ?_
  refine ww_eq2 (tgt := 863) hx hb dL_law_858 (by decide) (fun c_1 => ?_) (fun c_1 => ?_)
  · refine ww_iload hx hb dL_law_863 5 rfl ?_
    refine ww_ne0 (tgt := 880) hx hb dL_law_865 (by decide) (fun hk0 => ?_) (fun hk0 => ?_)
    · refine ww_goto (tgt := 1434) hx hb dL_law_880 (by decide) ?_
      refine ww_swap ?_
      refine ww_sub (lv1 := [(0, .ref b), (1, .ref (q 0)), (2, .ref (q2 0)), (3, .ref o), (4, .int x4)]) [0, 1, 2, 3, 4] rfl ?_
      exact ww_widen (by omega) (by omega) (kk _ _ _ R1)
    · refine ww_aload_n hx hb dL_law_868 rfl 3 rfl ?_
      refine ww_iconst (v := 0) hx hb dL_law_869 (by decide) ?_
      refine ww_lald (i := 0) hx hb hown hts hK 0 1 rfl rfl in0 dL_law_870 ?_
      refine ww_iload hx hb dL_law_871 6 rfl ?_
      refine ww_i2l hx hb dL_law_873 ?_
      refine ww_lcmp hx hb dL_law_874 ?_
      refine ww_eq0 (tgt := 880) hx hb dL_law_875 (by decide) (fun c_3 => ?_) (fun c_3 => ?_)
      · refine ww_goto (tgt := 1434) hx hb dL_law_880 (by decide) ?_
        refine ww_swap ?_
        refine ww_sub (lv1 := [(0, .ref b), (1, .ref (q 0)), (2, .ref (q2 0)), (3, .ref o), (4, .int x4)]) [0, 1, 2, 3, 4] rfl ?_
        exact ww_widen (by omega) (by omega) (kk _ _ _ R1)
      · exact absurd (by rw [ho hk0]; exact lg_cmp_self _) c_3
  · exact absurd hth c_1
set_option maxHeartbeats 4000000 in
set_option maxRecDepth 100000 in
theorem lc_10 {p : Program} {l : Launch} {e : Env} {s : State} {m : MethodId} {below : List Frame} {meth : Method} {c : Code} {D : va_G} {q q2 : Nat → Nat} {o : Nat} {cA cL : ClassId} {b L : Nat} {xs : Nat → Int32} (C : LC p l s m meth c D q q2 o cA cL b L xs) {cells slots : Nat} (hcs : cells + 1 ≤ room_1.cells ∧ slots + 6 ≤ room_1.slots) {x4 : Int32} (h1 : vp_in (x4 + 1) L) (h2 : vp_in (x4 + 2) L) (h3 : vp_in (x4 + 3) L) (h4 : vp_in (x4 + 4) L) (h5 : vp_in (x4 + 5) L) {σ τ : SS} (f : Nat → Int64) {j : Nat} (hj : j < 512) (R : Rel j σ τ) (kk : ∀ (σ1 τ1 : SS) (f1 : Nat → Int64), Rel (j + 1) σ1 τ1 → LW p l e s m below meth c D q q2 o cA cL b (cells + 1) (slots + 6) σ1 τ1 f1 1434 x4) : LW p l e s m below meth c D q q2 o cA cL b cells slots σ τ f 883 x4 := by
  obtain ⟨hx, hb, hr, hlk, hml, hown, hts, hK, hN, hZ, hX, hbl, hDD, hl0⟩ := C
  have hK1 : va_K D vwCl [(cA, .int)] s := hK.sub [0] rfl
  have hA : ∀ q : Nat, s.heap.size ≤ q → (fun q : Nat => s.heap.size ≤ q) q := fun _ h => h
  have hbA : ¬ (fun q : Nat => s.heap.size ≤ q) b := Nat.not_le.mpr hbl
  refine ww_aload_n hx hb dL_law_883 rfl 1 rfl ?_
  refine ww_aload_n hx hb dL_law_884 rfl 0 rfl ?_
  refine ww_iload hx hb dL_law_885 4 rfl ?_
  refine ww_iconst (v := 1) hx hb dL_law_887 (by decide) ?_
  refine ww_iadd hx hb dL_law_888 ?_
  refine ww_sld hx hb hX hbl hbA h1 dL_law_889 ?_
  refine ww_aload_n hx hb dL_law_890 rfl 0 rfl ?_
  refine ww_iload hx hb dL_law_891 4 rfl ?_
  refine ww_iconst (v := 2) hx hb dL_law_893 (by decide) ?_
  refine ww_iadd hx hb dL_law_894 ?_
  refine ww_sld hx hb hX hbl hbA h2 dL_law_895 ?_
  refine ww_aload_n hx hb dL_law_896 rfl 0 rfl ?_
  refine ww_iload hx hb dL_law_897 4 rfl ?_
  refine ww_iconst (v := 3) hx hb dL_law_899 (by decide) ?_
  refine ww_iadd hx hb dL_law_900 ?_
  refine ww_sld hx hb hX hbl hbA h3 dL_law_901 ?_
  refine ww_aload_n hx hb dL_law_902 rfl 3 rfl ?_
  obtain ⟨r, σ1, bb, τ1, e1, e2, R1, ag⟩ := st_part hj R (xs (Int32.toNatClampNeg (x4 + 1))) (xs (Int32.toNatClampNeg (x4 + 2))) (xs (Int32.toNatClampNeg (x4 + 3)))
  obtain ⟨k, f1, hk, hth, ho⟩ := agr_int ag f
  refine ww_callH hx hb hml hown hts hK hN hA hZ (WR q2 cA τ) [.ref (q 0), .int (xs (Int32.toNatClampNeg (x4 + 1))), .int (xs (Int32.toNatClampNeg (x4 + 2))), .int (xs (Int32.toNatClampNeg (x4 + 3))), .ref o] [] (mL_part hl0 σ (xs (Int32.toNatClampNeg (x4 + 1))) (xs (Int32.toNatClampNeg (x4 + 2))) (xs (Int32.toNatClampNeg (x4 + 3))) f r σ1 e1 k f1 hk) cs_L_119 rfl (by decide) hcs rfl (hDD _ _ _) rfl rfl (Nat.le_of_ble_eq_true rfl) dL_law_903 ?_
  refine ww_istore (i := 5) (lv1 := [(0, .ref b), (1, .ref (q 0)), (2, .ref (q2 0)), (3, .ref o), (4, .int x4), (5, .int k)]) hx hb dL_law_906 (by decide) [1, 2, 3, 4, 5, 0] rfl ?_
  refine ww_aload_n hx hb dL_law_908 rfl 2 rfl ?_
  refine ww_aload_n hx hb dL_law_909 rfl 0 rfl ?_
  refine ww_iload hx hb dL_law_910 4 rfl ?_
  refine ww_iconst (v := 1) hx hb dL_law_912 (by decide) ?_
  refine ww_iadd hx hb dL_law_913 ?_
  refine ww_sld hx hb hX hbl hbA h1 dL_law_914 ?_
  refine ww_aload_n hx hb dL_law_915 rfl 0 rfl ?_
  refine ww_iload hx hb dL_law_916 4 rfl ?_
  refine ww_iconst (v := 2) hx hb dL_law_918 (by decide) ?_
  refine ww_iadd hx hb dL_law_919 ?_
  refine ww_sld hx hb hX hbl hbA h2 dL_law_920 ?_
  refine ww_aload_n hx hb dL_law_921 rfl 0 rfl ?_
  refine ww_iload hx hb dL_law_922 4 rfl ?_
  refine ww_iconst (v := 3) hx hb dL_law_924 (by decide) ?_
  refine ww_iadd hx hb dL_law_925 ?_
  refine ww_sld hx hb hX hbl hbA h3 dL_law_926 ?_
  refine ww_swap ?_
  refine ww_callVF hx hb hml hown hts hN hA hK1 hcs.1 hcs.2 (WO o cL f1 ++ WC q cA σ1) [.int (xs (Int32.toNatClampNeg (x4 + 1))), .int (xs (Int32.toNatClampNeg (x4 + 2))), .int (xs (Int32.toNatClampNeg (x4 + 3)))] [] (m_X5_part τ (xs (Int32.toNatClampNeg (x4 + 1))) (xs (Int32.toNatClampNeg (x4 + 2))) (xs (Int32.toNatClampNeg (x4 + 3))) _ τ1 e2) cs_L_122 rfl (by decide) rfl ((hDD _ _ _).sw) rfl 0 rfl rfl rfl (Nat.le_of_ble_eq_true rfl) dL_law_927 ?_
  refine ww_istore (i := 6) (lv1 := [(0, .ref b), (1, .ref (q 0)), (2, .ref (q2 0)), (3, .ref o), (4, .int x4), (5, .int k), (6, .int bb)]) hx hb dL_law_930 (by decide) [1, 2, 3, 4, 5, 6, 0] rfl ?_
  refine ww_aload_n hx hb dL_law_932 rfl 2 rfl ?_
  refine ww_callVF hx hb hml hown hts hN hA hK1 hcs.1 hcs.2 (WO o cL f1 ++ WC q cA σ1) [] [] (m_X5_thrown τ1) cs_L_83 rfl (by decide) rfl ((hDD _ _ _).sw) rfl 0 rfl rfl rfl (Nat.le_of_ble_eq_true rfl) dL_law_933 ?_
  refine ww_iload hx hb dL_law_936 5 rfl ?_
  refine ww_eq2 (tgt := 943) hx hb dL_law_938 (by decide) (fun c_1 => ?_) (fun c_1 => ?_)
  · refine ww_iload hx hb dL_law_943 5 rfl ?_
    refine ww_ne0 (tgt := 960) hx hb dL_law_945 (by decide) (fun hk0 => ?_) (fun hk0 => ?_)
    · refine ww_goto (tgt := 1434) hx hb dL_law_960 (by decide) ?_
      refine ww_swap ?_
      refine ww_sub (lv1 := [(0, .ref b), (1, .ref (q 0)), (2, .ref (q2 0)), (3, .ref o), (4, .int x4)]) [0, 1, 2, 3, 4] rfl ?_
      exact ww_widen (by omega) (by omega) (kk _ _ _ R1)
    · refine ww_aload_n hx hb dL_law_948 rfl 3 rfl ?_
      refine ww_iconst (v := 0) hx hb dL_law_949 (by decide) ?_
      refine ww_lald (i := 0) hx hb hown hts hK 0 1 rfl rfl in0 dL_law_950 ?_
      refine ww_iload hx hb dL_law_951 6 rfl ?_
      refine ww_i2l hx hb dL_law_953 ?_
      refine ww_lcmp hx hb dL_law_954 ?_
      refine ww_eq0 (tgt := 960) hx hb dL_law_955 (by decide) (fun c_3 => ?_) (fun c_3 => ?_)
      · refine ww_goto (tgt := 1434) hx hb dL_law_960 (by decide) ?_
        refine ww_swap ?_
        refine ww_sub (lv1 := [(0, .ref b), (1, .ref (q 0)), (2, .ref (q2 0)), (3, .ref o), (4, .int x4)]) [0, 1, 2, 3, 4] rfl ?_
        exact ww_widen (by omega) (by omega) (kk _ _ _ R1)
      · exact absurd (by rw [ho hk0]; exact lg_cmp_self _) c_3
  · exact absurd hth c_1
set_option maxHeartbeats 4000000 in
set_option maxRecDepth 100000 in
theorem lc_11 {p : Program} {l : Launch} {e : Env} {s : State} {m : MethodId} {below : List Frame} {meth : Method} {c : Code} {D : va_G} {q q2 : Nat → Nat} {o : Nat} {cA cL : ClassId} {b L : Nat} {xs : Nat → Int32} (C : LC p l s m meth c D q q2 o cA cL b L xs) {cells slots : Nat} (hcs : cells + 1 ≤ room_1.cells ∧ slots + 6 ≤ room_1.slots) {x4 : Int32} (h1 : vp_in (x4 + 1) L) (h2 : vp_in (x4 + 2) L) (h3 : vp_in (x4 + 3) L) (h4 : vp_in (x4 + 4) L) (h5 : vp_in (x4 + 5) L) {σ τ : SS} (f : Nat → Int64) {j : Nat} (hj : j < 512) (R : Rel j σ τ) (kk : ∀ (σ1 τ1 : SS) (f1 : Nat → Int64), Rel (j + 1) σ1 τ1 → LW p l e s m below meth c D q q2 o cA cL b (cells + 1) (slots + 6) σ1 τ1 f1 1434 x4) : LW p l e s m below meth c D q q2 o cA cL b cells slots σ τ f 963 x4 := by
  obtain ⟨hx, hb, hr, hlk, hml, hown, hts, hK, hN, hZ, hX, hbl, hDD, hl0⟩ := C
  have hK1 : va_K D vwCl [(cA, .int)] s := hK.sub [0] rfl
  have hA : ∀ q : Nat, s.heap.size ≤ q → (fun q : Nat => s.heap.size ≤ q) q := fun _ h => h
  have hbA : ¬ (fun q : Nat => s.heap.size ≤ q) b := Nat.not_le.mpr hbl
  refine ww_aload_n hx hb dL_law_963 rfl 1 rfl ?_
  refine ww_aload_n hx hb dL_law_964 rfl 0 rfl ?_
  refine ww_iload hx hb dL_law_965 4 rfl ?_
  refine ww_iconst (v := 1) hx hb dL_law_967 (by decide) ?_
  refine ww_iadd hx hb dL_law_968 ?_
  refine ww_sld hx hb hX hbl hbA h1 dL_law_969 ?_
  refine ww_aload_n hx hb dL_law_970 rfl 3 rfl ?_
  obtain ⟨r, σ1, bb, τ1, e1, e2, R1, ag⟩ := st_income hj R (xs (Int32.toNatClampNeg (x4 + 1)))
  obtain ⟨k, f1, hk, hth, ho⟩ := agr_int ag f
  refine ww_callH hx hb hml hown hts hK hN hA hZ (WR q2 cA τ) [.ref (q 0), .int (xs (Int32.toNatClampNeg (x4 + 1))), .ref o] [] (mL_income hl0 σ (xs (Int32.toNatClampNeg (x4 + 1))) f r σ1 e1 k f1 hk) cs_L_123 rfl (by decide) hcs rfl (hDD _ _ _) rfl rfl (Nat.le_of_ble_eq_true rfl) dL_law_971 ?_
  refine ww_istore (i := 5) (lv1 := [(0, .ref b), (1, .ref (q 0)), (2, .ref (q2 0)), (3, .ref o), (4, .int x4), (5, .int k)]) hx hb dL_law_974 (by decide) [1, 2, 3, 4, 5, 0] rfl ?_
  refine ww_aload_n hx hb dL_law_976 rfl 2 rfl ?_
  refine ww_aload_n hx hb dL_law_977 rfl 0 rfl ?_
  refine ww_iload hx hb dL_law_978 4 rfl ?_
  refine ww_iconst (v := 1) hx hb dL_law_980 (by decide) ?_
  refine ww_iadd hx hb dL_law_981 ?_
  refine ww_sld hx hb hX hbl hbA h1 dL_law_982 ?_
  refine ww_swap ?_
  refine ww_callVF hx hb hml hown hts hN hA hK1 hcs.1 hcs.2 (WO o cL f1 ++ WC q cA σ1) [.int (xs (Int32.toNatClampNeg (x4 + 1)))] [] (m_X5_income τ (xs (Int32.toNatClampNeg (x4 + 1))) _ τ1 e2) cs_L_125 rfl (by decide) rfl ((hDD _ _ _).sw) rfl 0 rfl rfl rfl (Nat.le_of_ble_eq_true rfl) dL_law_983 ?_
  refine ww_istore (i := 6) (lv1 := [(0, .ref b), (1, .ref (q 0)), (2, .ref (q2 0)), (3, .ref o), (4, .int x4), (5, .int k), (6, .int bb)]) hx hb dL_law_986 (by decide) [1, 2, 3, 4, 5, 6, 0] rfl ?_
  refine ww_aload_n hx hb dL_law_988 rfl 2 rfl ?_
  refine ww_callVF hx hb hml hown hts hN hA hK1 hcs.1 hcs.2 (WO o cL f1 ++ WC q cA σ1) [] [] (m_X5_thrown τ1) cs_L_83 rfl (by decide) rfl ((hDD _ _ _).sw) rfl 0 rfl rfl rfl (Nat.le_of_ble_eq_true rfl) dL_law_989 ?_
  refine ww_iload hx hb dL_law_992 5 rfl ?_
  refine ww_eq2 (tgt := 999) hx hb dL_law_994 (by decide) (fun c_1 => ?_) (fun c_1 => ?_)
  · refine ww_iload hx hb dL_law_999 5 rfl ?_
    refine ww_ne0 (tgt := 1016) hx hb dL_law_1001 (by decide) (fun hk0 => ?_) (fun hk0 => ?_)
    · refine ww_goto (tgt := 1434) hx hb dL_law_1016 (by decide) ?_
      refine ww_swap ?_
      refine ww_sub (lv1 := [(0, .ref b), (1, .ref (q 0)), (2, .ref (q2 0)), (3, .ref o), (4, .int x4)]) [0, 1, 2, 3, 4] rfl ?_
      exact ww_widen (by omega) (by omega) (kk _ _ _ R1)
    · refine ww_aload_n hx hb dL_law_1004 rfl 3 rfl ?_
      refine ww_iconst (v := 0) hx hb dL_law_1005 (by decide) ?_
      refine ww_lald (i := 0) hx hb hown hts hK 0 1 rfl rfl in0 dL_law_1006 ?_
      refine ww_iload hx hb dL_law_1007 6 rfl ?_
      refine ww_i2l hx hb dL_law_1009 ?_
      refine ww_lcmp hx hb dL_law_1010 ?_
      refine ww_eq0 (tgt := 1016) hx hb dL_law_1011 (by decide) (fun c_3 => ?_) (fun c_3 => ?_)
      · refine ww_goto (tgt := 1434) hx hb dL_law_1016 (by decide) ?_
        refine ww_swap ?_
        refine ww_sub (lv1 := [(0, .ref b), (1, .ref (q 0)), (2, .ref (q2 0)), (3, .ref o), (4, .int x4)]) [0, 1, 2, 3, 4] rfl ?_
        exact ww_widen (by omega) (by omega) (kk _ _ _ R1)
      · exact absurd (by rw [ho hk0]; exact lg_cmp_self _) c_3
  · exact absurd hth c_1
set_option maxHeartbeats 4000000 in
set_option maxRecDepth 100000 in
theorem lc_12 {p : Program} {l : Launch} {e : Env} {s : State} {m : MethodId} {below : List Frame} {meth : Method} {c : Code} {D : va_G} {q q2 : Nat → Nat} {o : Nat} {cA cL : ClassId} {b L : Nat} {xs : Nat → Int32} (C : LC p l s m meth c D q q2 o cA cL b L xs) {cells slots : Nat} (hcs : cells + 1 ≤ room_1.cells ∧ slots + 6 ≤ room_1.slots) {x4 : Int32} (h1 : vp_in (x4 + 1) L) (h2 : vp_in (x4 + 2) L) (h3 : vp_in (x4 + 3) L) (h4 : vp_in (x4 + 4) L) (h5 : vp_in (x4 + 5) L) {σ τ : SS} (f : Nat → Int64) {j : Nat} (hj : j < 512) (R : Rel j σ τ) (kk : ∀ (σ1 τ1 : SS) (f1 : Nat → Int64), Rel (j + 1) σ1 τ1 → LW p l e s m below meth c D q q2 o cA cL b (cells + 1) (slots + 6) σ1 τ1 f1 1434 x4) : LW p l e s m below meth c D q q2 o cA cL b cells slots σ τ f 1019 x4 := by
  obtain ⟨hx, hb, hr, hlk, hml, hown, hts, hK, hN, hZ, hX, hbl, hDD, hl0⟩ := C
  have hK1 : va_K D vwCl [(cA, .int)] s := hK.sub [0] rfl
  have hA : ∀ q : Nat, s.heap.size ≤ q → (fun q : Nat => s.heap.size ≤ q) q := fun _ h => h
  have hbA : ¬ (fun q : Nat => s.heap.size ≤ q) b := Nat.not_le.mpr hbl
  refine ww_aload_n hx hb dL_law_1019 rfl 1 rfl ?_
  obtain ⟨τ1, e2, R1⟩ := st_today hj R
  refine ww_callVF hx hb hml hown hts hN hA hK1 (Nat.le_trans (Nat.le_add_right _ _) hcs.1) (Nat.le_trans (Nat.le_add_right _ _) hcs.2) (WR q2 cA τ ++ WO o cL f) [] [] (m_X4_today σ) cs_L_126 rfl (by decide) (List.append_assoc _ _ _).symm (hDD _ _ _) rfl 0 rfl rfl rfl (Nat.le_of_ble_eq_true rfl) dL_law_1020 ?_
  refine ww_eq (List.append_assoc _ _ _) ?_
  refine ww_aload_n hx hb dL_law_1023 rfl 2 rfl ?_
  refine ww_swap ?_
  refine ww_callVF hx hb hml hown hts hN hA hK1 (Nat.le_trans (Nat.le_add_right _ _) hcs.1) (Nat.le_trans (Nat.le_add_right _ _) hcs.2) (WO o cL f ++ WC q cA σ) [] [.int (X4_today σ)] (m_X5_today τ _ τ1 e2) cs_L_129 rfl (by decide) rfl ((hDD _ _ _).sw) rfl 0 rfl rfl rfl (Nat.le_of_ble_eq_true rfl) dL_law_1024 ?_
  refine ww_eq2 (tgt := 1434) hx hb dL_law_1027 (by decide) (fun c_1 => ?_) (fun c_1 => ?_)
  · refine ww_swap ?_
    refine ww_sub (lv1 := [(0, .ref b), (1, .ref (q 0)), (2, .ref (q2 0)), (3, .ref o), (4, .int x4)]) [0, 1, 2, 3, 4] rfl ?_
    exact ww_widen (by omega) (by omega) (kk _ _ _ R1)
  · exact absurd rfl c_1
set_option maxHeartbeats 4000000 in
set_option maxRecDepth 100000 in
theorem lc_13 {p : Program} {l : Launch} {e : Env} {s : State} {m : MethodId} {below : List Frame} {meth : Method} {c : Code} {D : va_G} {q q2 : Nat → Nat} {o : Nat} {cA cL : ClassId} {b L : Nat} {xs : Nat → Int32} (C : LC p l s m meth c D q q2 o cA cL b L xs) {cells slots : Nat} (hcs : cells + 1 ≤ room_1.cells ∧ slots + 6 ≤ room_1.slots) {x4 : Int32} (h1 : vp_in (x4 + 1) L) (h2 : vp_in (x4 + 2) L) (h3 : vp_in (x4 + 3) L) (h4 : vp_in (x4 + 4) L) (h5 : vp_in (x4 + 5) L) {σ τ : SS} (f : Nat → Int64) {j : Nat} (hj : j < 512) (R : Rel j σ τ) (kk : ∀ (σ1 τ1 : SS) (f1 : Nat → Int64), Rel (j + 1) σ1 τ1 → LW p l e s m below meth c D q q2 o cA cL b (cells + 1) (slots + 6) σ1 τ1 f1 1434 x4) : LW p l e s m below meth c D q q2 o cA cL b cells slots σ τ f 1032 x4 := by
  obtain ⟨hx, hb, hr, hlk, hml, hown, hts, hK, hN, hZ, hX, hbl, hDD, hl0⟩ := C
  have hK1 : va_K D vwCl [(cA, .int)] s := hK.sub [0] rfl
  have hA : ∀ q : Nat, s.heap.size ≤ q → (fun q : Nat => s.heap.size ≤ q) q := fun _ h => h
  have hbA : ¬ (fun q : Nat => s.heap.size ≤ q) b := Nat.not_le.mpr hbl
  refine ww_aload_n hx hb dL_law_1032 rfl 1 rfl ?_
  obtain ⟨τ1, e2, R1⟩ := st_shot hj R
  refine ww_callVF hx hb hml hown hts hN hA hK1 (Nat.le_trans (Nat.le_add_right _ _) hcs.1) (Nat.le_trans (Nat.le_add_right _ _) hcs.2) (WR q2 cA τ ++ WO o cL f) [] [] (m_X4_shot σ) cs_L_130 rfl (by decide) (List.append_assoc _ _ _).symm (hDD _ _ _) rfl 0 rfl rfl rfl (Nat.le_of_ble_eq_true rfl) dL_law_1033 ?_
  refine ww_eq (List.append_assoc _ _ _) ?_
  refine ww_aload_n hx hb dL_law_1036 rfl 2 rfl ?_
  refine ww_swap ?_
  refine ww_callVF hx hb hml hown hts hN hA hK1 (Nat.le_trans (Nat.le_add_right _ _) hcs.1) (Nat.le_trans (Nat.le_add_right _ _) hcs.2) (WO o cL f ++ WC q cA σ) [] [.int (X4_shot σ)] (m_X5_shot τ _ τ1 e2) cs_L_133 rfl (by decide) rfl ((hDD _ _ _).sw) rfl 0 rfl rfl rfl (Nat.le_of_ble_eq_true rfl) dL_law_1037 ?_
  refine ww_eq2 (tgt := 1434) hx hb dL_law_1040 (by decide) (fun c_1 => ?_) (fun c_1 => ?_)
  · refine ww_swap ?_
    refine ww_sub (lv1 := [(0, .ref b), (1, .ref (q 0)), (2, .ref (q2 0)), (3, .ref o), (4, .int x4)]) [0, 1, 2, 3, 4] rfl ?_
    exact ww_widen (by omega) (by omega) (kk _ _ _ R1)
  · exact absurd rfl c_1
set_option maxHeartbeats 4000000 in
set_option maxRecDepth 100000 in
theorem lc_14 {p : Program} {l : Launch} {e : Env} {s : State} {m : MethodId} {below : List Frame} {meth : Method} {c : Code} {D : va_G} {q q2 : Nat → Nat} {o : Nat} {cA cL : ClassId} {b L : Nat} {xs : Nat → Int32} (C : LC p l s m meth c D q q2 o cA cL b L xs) {cells slots : Nat} (hcs : cells + 1 ≤ room_1.cells ∧ slots + 6 ≤ room_1.slots) {x4 : Int32} (h1 : vp_in (x4 + 1) L) (h2 : vp_in (x4 + 2) L) (h3 : vp_in (x4 + 3) L) (h4 : vp_in (x4 + 4) L) (h5 : vp_in (x4 + 5) L) {σ τ : SS} (f : Nat → Int64) {j : Nat} (hj : j < 512) (R : Rel j σ τ) (kk : ∀ (σ1 τ1 : SS) (f1 : Nat → Int64), Rel (j + 1) σ1 τ1 → LW p l e s m below meth c D q q2 o cA cL b (cells + 1) (slots + 6) σ1 τ1 f1 1434 x4) : LW p l e s m below meth c D q q2 o cA cL b cells slots σ τ f 1045 x4 := by
  obtain ⟨hx, hb, hr, hlk, hml, hown, hts, hK, hN, hZ, hX, hbl, hDD, hl0⟩ := C
  have hK1 : va_K D vwCl [(cA, .int)] s := hK.sub [0] rfl
  have hA : ∀ q : Nat, s.heap.size ≤ q → (fun q : Nat => s.heap.size ≤ q) q := fun _ h => h
  have hbA : ¬ (fun q : Nat => s.heap.size ≤ q) b := Nat.not_le.mpr hbl
  refine ww_aload_n hx hb dL_law_1045 rfl 1 rfl ?_
  obtain ⟨r, σ1, τ1, e1, e2, R1⟩ := st_days hj R
  refine ww_callVF hx hb hml hown hts hN hA hK1 (Nat.le_trans (Nat.le_add_right _ _) hcs.1) (Nat.le_trans (Nat.le_add_right _ _) hcs.2) (WR q2 cA τ ++ WO o cL f) [] [] (m_X4_days σ r σ1 e1) cs_L_134 rfl (by decide) (List.append_assoc _ _ _).symm (hDD _ _ _) rfl 0 rfl rfl rfl (Nat.le_of_ble_eq_true rfl) dL_law_1046 ?_
  refine ww_eq (List.append_assoc _ _ _) ?_
  refine ww_aload_n hx hb dL_law_1049 rfl 2 rfl ?_
  refine ww_swap ?_
  refine ww_callVF hx hb hml hown hts hN hA hK1 (Nat.le_trans (Nat.le_add_right _ _) hcs.1) (Nat.le_trans (Nat.le_add_right _ _) hcs.2) (WO o cL f ++ WC q cA σ1) [] [.int r] (m_X5_days τ _ τ1 e2) cs_L_137 rfl (by decide) rfl ((hDD _ _ _).sw) rfl 0 rfl rfl rfl (Nat.le_of_ble_eq_true rfl) dL_law_1050 ?_
  refine ww_eq2 (tgt := 1434) hx hb dL_law_1053 (by decide) (fun c_1 => ?_) (fun c_1 => ?_)
  · refine ww_swap ?_
    refine ww_sub (lv1 := [(0, .ref b), (1, .ref (q 0)), (2, .ref (q2 0)), (3, .ref o), (4, .int x4)]) [0, 1, 2, 3, 4] rfl ?_
    exact ww_widen (by omega) (by omega) (kk _ _ _ R1)
  · exact absurd rfl c_1
set_option maxHeartbeats 4000000 in
set_option maxRecDepth 100000 in
theorem lc_15 {p : Program} {l : Launch} {e : Env} {s : State} {m : MethodId} {below : List Frame} {meth : Method} {c : Code} {D : va_G} {q q2 : Nat → Nat} {o : Nat} {cA cL : ClassId} {b L : Nat} {xs : Nat → Int32} (C : LC p l s m meth c D q q2 o cA cL b L xs) {cells slots : Nat} (hcs : cells + 1 ≤ room_1.cells ∧ slots + 6 ≤ room_1.slots) {x4 : Int32} (h1 : vp_in (x4 + 1) L) (h2 : vp_in (x4 + 2) L) (h3 : vp_in (x4 + 3) L) (h4 : vp_in (x4 + 4) L) (h5 : vp_in (x4 + 5) L) {σ τ : SS} (f : Nat → Int64) {j : Nat} (hj : j < 512) (R : Rel j σ τ) (kk : ∀ (σ1 τ1 : SS) (f1 : Nat → Int64), Rel (j + 1) σ1 τ1 → LW p l e s m below meth c D q q2 o cA cL b (cells + 1) (slots + 6) σ1 τ1 f1 1434 x4) : LW p l e s m below meth c D q q2 o cA cL b cells slots σ τ f 1058 x4 := by
  obtain ⟨hx, hb, hr, hlk, hml, hown, hts, hK, hN, hZ, hX, hbl, hDD, hl0⟩ := C
  have hK1 : va_K D vwCl [(cA, .int)] s := hK.sub [0] rfl
  have hA : ∀ q : Nat, s.heap.size ≤ q → (fun q : Nat => s.heap.size ≤ q) q := fun _ h => h
  have hbA : ¬ (fun q : Nat => s.heap.size ≤ q) b := Nat.not_le.mpr hbl
  refine ww_aload_n hx hb dL_law_1058 rfl 1 rfl ?_
  refine ww_aload_n hx hb dL_law_1059 rfl 3 rfl ?_
  obtain ⟨r, σ1, bb, τ1, e1, e2, R1, ag⟩ := st_daysByAll hj R
  obtain ⟨k, f1, hk, hth, ho⟩ := agr_int ag f
  refine ww_callH hx hb hml hown hts hK hN hA hZ (WR q2 cA τ) [.ref (q 0), .ref o] [] (mL_daysByAll hl0 σ f r σ1 e1 k f1 hk) cs_L_138 rfl (by decide) hcs rfl (hDD _ _ _) rfl rfl (Nat.le_of_ble_eq_true rfl) dL_law_1060 ?_
  refine ww_istore (i := 5) (lv1 := [(0, .ref b), (1, .ref (q 0)), (2, .ref (q2 0)), (3, .ref o), (4, .int x4), (5, .int k)]) hx hb dL_law_1063 (by decide) [1, 2, 3, 4, 5, 0] rfl ?_
  refine ww_aload_n hx hb dL_law_1065 rfl 2 rfl ?_
  refine ww_swap ?_
  refine ww_callVF hx hb hml hown hts hN hA hK1 hcs.1 hcs.2 (WO o cL f1 ++ WC q cA σ1) [] [] (m_X5_daysByAll τ _ τ1 e2) cs_L_141 rfl (by decide) rfl ((hDD _ _ _).sw) rfl 0 rfl rfl rfl (Nat.le_of_ble_eq_true rfl) dL_law_1066 ?_
  refine ww_istore (i := 6) (lv1 := [(0, .ref b), (1, .ref (q 0)), (2, .ref (q2 0)), (3, .ref o), (4, .int x4), (5, .int k), (6, .int bb)]) hx hb dL_law_1069 (by decide) [1, 2, 3, 4, 5, 6, 0] rfl ?_
  refine ww_aload_n hx hb dL_law_1071 rfl 2 rfl ?_
  refine ww_callVF hx hb hml hown hts hN hA hK1 hcs.1 hcs.2 (WO o cL f1 ++ WC q cA σ1) [] [] (m_X5_thrown τ1) cs_L_83 rfl (by decide) rfl ((hDD _ _ _).sw) rfl 0 rfl rfl rfl (Nat.le_of_ble_eq_true rfl) dL_law_1072 ?_
  refine ww_iload hx hb dL_law_1075 5 rfl ?_
  refine ww_eq2 (tgt := 1082) hx hb dL_law_1077 (by decide) (fun c_1 => ?_) (fun c_1 => ?_)
  · refine ww_iload hx hb dL_law_1082 5 rfl ?_
    refine ww_ne0 (tgt := 1099) hx hb dL_law_1084 (by decide) (fun hk0 => ?_) (fun hk0 => ?_)
    · refine ww_goto (tgt := 1434) hx hb dL_law_1099 (by decide) ?_
      refine ww_swap ?_
      refine ww_sub (lv1 := [(0, .ref b), (1, .ref (q 0)), (2, .ref (q2 0)), (3, .ref o), (4, .int x4)]) [0, 1, 2, 3, 4] rfl ?_
      exact ww_widen (by omega) (by omega) (kk _ _ _ R1)
    · refine ww_aload_n hx hb dL_law_1087 rfl 3 rfl ?_
      refine ww_iconst (v := 0) hx hb dL_law_1088 (by decide) ?_
      refine ww_lald (i := 0) hx hb hown hts hK 0 1 rfl rfl in0 dL_law_1089 ?_
      refine ww_iload hx hb dL_law_1090 6 rfl ?_
      refine ww_i2l hx hb dL_law_1092 ?_
      refine ww_lcmp hx hb dL_law_1093 ?_
      refine ww_eq0 (tgt := 1099) hx hb dL_law_1094 (by decide) (fun c_3 => ?_) (fun c_3 => ?_)
      · refine ww_goto (tgt := 1434) hx hb dL_law_1099 (by decide) ?_
        refine ww_swap ?_
        refine ww_sub (lv1 := [(0, .ref b), (1, .ref (q 0)), (2, .ref (q2 0)), (3, .ref o), (4, .int x4)]) [0, 1, 2, 3, 4] rfl ?_
        exact ww_widen (by omega) (by omega) (kk _ _ _ R1)
      · exact absurd (by rw [ho hk0]; exact lg_cmp_self _) c_3
  · exact absurd hth c_1
set_option maxHeartbeats 4000000 in
set_option maxRecDepth 100000 in
theorem lc_16 {p : Program} {l : Launch} {e : Env} {s : State} {m : MethodId} {below : List Frame} {meth : Method} {c : Code} {D : va_G} {q q2 : Nat → Nat} {o : Nat} {cA cL : ClassId} {b L : Nat} {xs : Nat → Int32} (C : LC p l s m meth c D q q2 o cA cL b L xs) {cells slots : Nat} (hcs : cells + 1 ≤ room_1.cells ∧ slots + 6 ≤ room_1.slots) {x4 : Int32} (h1 : vp_in (x4 + 1) L) (h2 : vp_in (x4 + 2) L) (h3 : vp_in (x4 + 3) L) (h4 : vp_in (x4 + 4) L) (h5 : vp_in (x4 + 5) L) {σ τ : SS} (f : Nat → Int64) {j : Nat} (hj : j < 512) (R : Rel j σ τ) (kk : ∀ (σ1 τ1 : SS) (f1 : Nat → Int64), Rel (j + 1) σ1 τ1 → LW p l e s m below meth c D q q2 o cA cL b (cells + 1) (slots + 6) σ1 τ1 f1 1434 x4) : LW p l e s m below meth c D q q2 o cA cL b cells slots σ τ f 1102 x4 := by
  obtain ⟨hx, hb, hr, hlk, hml, hown, hts, hK, hN, hZ, hX, hbl, hDD, hl0⟩ := C
  have hK1 : va_K D vwCl [(cA, .int)] s := hK.sub [0] rfl
  have hA : ∀ q : Nat, s.heap.size ≤ q → (fun q : Nat => s.heap.size ≤ q) q := fun _ h => h
  have hbA : ¬ (fun q : Nat => s.heap.size ≤ q) b := Nat.not_le.mpr hbl
  refine ww_aload_n hx hb dL_law_1102 rfl 1 rfl ?_
  refine ww_aload_n hx hb dL_law_1103 rfl 0 rfl ?_
  refine ww_iload hx hb dL_law_1104 4 rfl ?_
  refine ww_iconst (v := 1) hx hb dL_law_1106 (by decide) ?_
  refine ww_iadd hx hb dL_law_1107 ?_
  refine ww_sld hx hb hX hbl hbA h1 dL_law_1108 ?_
  refine ww_aload_n hx hb dL_law_1109 rfl 3 rfl ?_
  obtain ⟨r, σ1, bb, τ1, e1, e2, R1, ag⟩ := st_planned hj R (xs (Int32.toNatClampNeg (x4 + 1)))
  obtain ⟨k, f1, hk, hth, ho⟩ := agr_int ag f
  refine ww_callH hx hb hml hown hts hK hN hA hZ (WR q2 cA τ) [.ref (q 0), .int (xs (Int32.toNatClampNeg (x4 + 1))), .ref o] [] (mL_planned hl0 σ (xs (Int32.toNatClampNeg (x4 + 1))) f r σ1 e1 k f1 hk) cs_L_142 rfl (by decide) hcs rfl (hDD _ _ _) rfl rfl (Nat.le_of_ble_eq_true rfl) dL_law_1110 ?_
  refine ww_istore (i := 5) (lv1 := [(0, .ref b), (1, .ref (q 0)), (2, .ref (q2 0)), (3, .ref o), (4, .int x4), (5, .int k)]) hx hb dL_law_1113 (by decide) [1, 2, 3, 4, 5, 0] rfl ?_
  refine ww_aload_n hx hb dL_law_1115 rfl 2 rfl ?_
  refine ww_aload_n hx hb dL_law_1116 rfl 0 rfl ?_
  refine ww_iload hx hb dL_law_1117 4 rfl ?_
  refine ww_iconst (v := 1) hx hb dL_law_1119 (by decide) ?_
  refine ww_iadd hx hb dL_law_1120 ?_
  refine ww_sld hx hb hX hbl hbA h1 dL_law_1121 ?_
  refine ww_swap ?_
  refine ww_callVF hx hb hml hown hts hN hA hK1 hcs.1 hcs.2 (WO o cL f1 ++ WC q cA σ1) [.int (xs (Int32.toNatClampNeg (x4 + 1)))] [] (m_X5_planned τ (xs (Int32.toNatClampNeg (x4 + 1))) _ τ1 e2) cs_L_144 rfl (by decide) rfl ((hDD _ _ _).sw) rfl 0 rfl rfl rfl (Nat.le_of_ble_eq_true rfl) dL_law_1122 ?_
  refine ww_istore (i := 6) (lv1 := [(0, .ref b), (1, .ref (q 0)), (2, .ref (q2 0)), (3, .ref o), (4, .int x4), (5, .int k), (6, .int bb)]) hx hb dL_law_1125 (by decide) [1, 2, 3, 4, 5, 6, 0] rfl ?_
  refine ww_aload_n hx hb dL_law_1127 rfl 2 rfl ?_
  refine ww_callVF hx hb hml hown hts hN hA hK1 hcs.1 hcs.2 (WO o cL f1 ++ WC q cA σ1) [] [] (m_X5_thrown τ1) cs_L_83 rfl (by decide) rfl ((hDD _ _ _).sw) rfl 0 rfl rfl rfl (Nat.le_of_ble_eq_true rfl) dL_law_1128 ?_
  refine ww_iload hx hb dL_law_1131 5 rfl ?_
  refine ww_eq2 (tgt := 1138) hx hb dL_law_1133 (by decide) (fun c_1 => ?_) (fun c_1 => ?_)
  · refine ww_iload hx hb dL_law_1138 5 rfl ?_
    refine ww_ne0 (tgt := 1155) hx hb dL_law_1140 (by decide) (fun hk0 => ?_) (fun hk0 => ?_)
    · refine ww_goto (tgt := 1434) hx hb dL_law_1155 (by decide) ?_
      refine ww_swap ?_
      refine ww_sub (lv1 := [(0, .ref b), (1, .ref (q 0)), (2, .ref (q2 0)), (3, .ref o), (4, .int x4)]) [0, 1, 2, 3, 4] rfl ?_
      exact ww_widen (by omega) (by omega) (kk _ _ _ R1)
    · refine ww_aload_n hx hb dL_law_1143 rfl 3 rfl ?_
      refine ww_iconst (v := 0) hx hb dL_law_1144 (by decide) ?_
      refine ww_lald (i := 0) hx hb hown hts hK 0 1 rfl rfl in0 dL_law_1145 ?_
      refine ww_iload hx hb dL_law_1146 6 rfl ?_
      refine ww_i2l hx hb dL_law_1148 ?_
      refine ww_lcmp hx hb dL_law_1149 ?_
      refine ww_eq0 (tgt := 1155) hx hb dL_law_1150 (by decide) (fun c_3 => ?_) (fun c_3 => ?_)
      · refine ww_goto (tgt := 1434) hx hb dL_law_1155 (by decide) ?_
        refine ww_swap ?_
        refine ww_sub (lv1 := [(0, .ref b), (1, .ref (q 0)), (2, .ref (q2 0)), (3, .ref o), (4, .int x4)]) [0, 1, 2, 3, 4] rfl ?_
        exact ww_widen (by omega) (by omega) (kk _ _ _ R1)
      · exact absurd (by rw [ho hk0]; exact lg_cmp_self _) c_3
  · exact absurd hth c_1
set_option maxHeartbeats 4000000 in
set_option maxRecDepth 100000 in
theorem lc_17 {p : Program} {l : Launch} {e : Env} {s : State} {m : MethodId} {below : List Frame} {meth : Method} {c : Code} {D : va_G} {q q2 : Nat → Nat} {o : Nat} {cA cL : ClassId} {b L : Nat} {xs : Nat → Int32} (C : LC p l s m meth c D q q2 o cA cL b L xs) {cells slots : Nat} (hcs : cells + 1 ≤ room_1.cells ∧ slots + 6 ≤ room_1.slots) {x4 : Int32} (h1 : vp_in (x4 + 1) L) (h2 : vp_in (x4 + 2) L) (h3 : vp_in (x4 + 3) L) (h4 : vp_in (x4 + 4) L) (h5 : vp_in (x4 + 5) L) {σ τ : SS} (f : Nat → Int64) {j : Nat} (hj : j < 512) (R : Rel j σ τ) (kk : ∀ (σ1 τ1 : SS) (f1 : Nat → Int64), Rel (j + 1) σ1 τ1 → LW p l e s m below meth c D q q2 o cA cL b (cells + 1) (slots + 6) σ1 τ1 f1 1434 x4) : LW p l e s m below meth c D q q2 o cA cL b cells slots σ τ f 1158 x4 := by
  obtain ⟨hx, hb, hr, hlk, hml, hown, hts, hK, hN, hZ, hX, hbl, hDD, hl0⟩ := C
  have hK1 : va_K D vwCl [(cA, .int)] s := hK.sub [0] rfl
  have hA : ∀ q : Nat, s.heap.size ≤ q → (fun q : Nat => s.heap.size ≤ q) q := fun _ h => h
  have hbA : ¬ (fun q : Nat => s.heap.size ≤ q) b := Nat.not_le.mpr hbl
  refine ww_aload_n hx hb dL_law_1158 rfl 1 rfl ?_
  refine ww_aload_n hx hb dL_law_1159 rfl 0 rfl ?_
  refine ww_iload hx hb dL_law_1160 4 rfl ?_
  refine ww_iconst (v := 1) hx hb dL_law_1162 (by decide) ?_
  refine ww_iadd hx hb dL_law_1163 ?_
  refine ww_sld hx hb hX hbl hbA h1 dL_law_1164 ?_
  refine ww_aload_n hx hb dL_law_1165 rfl 3 rfl ?_
  obtain ⟨r, σ1, bb, τ1, e1, e2, R1, ag⟩ := st_begins hj R (xs (Int32.toNatClampNeg (x4 + 1)))
  obtain ⟨k, f1, hk, hth, ho⟩ := agr_int ag f
  refine ww_callH hx hb hml hown hts hK hN hA hZ (WR q2 cA τ) [.ref (q 0), .int (xs (Int32.toNatClampNeg (x4 + 1))), .ref o] [] (mL_begins hl0 σ (xs (Int32.toNatClampNeg (x4 + 1))) f r σ1 e1 k f1 hk) cs_L_145 rfl (by decide) hcs rfl (hDD _ _ _) rfl rfl (Nat.le_of_ble_eq_true rfl) dL_law_1166 ?_
  refine ww_istore (i := 5) (lv1 := [(0, .ref b), (1, .ref (q 0)), (2, .ref (q2 0)), (3, .ref o), (4, .int x4), (5, .int k)]) hx hb dL_law_1169 (by decide) [1, 2, 3, 4, 5, 0] rfl ?_
  refine ww_aload_n hx hb dL_law_1171 rfl 2 rfl ?_
  refine ww_aload_n hx hb dL_law_1172 rfl 0 rfl ?_
  refine ww_iload hx hb dL_law_1173 4 rfl ?_
  refine ww_iconst (v := 1) hx hb dL_law_1175 (by decide) ?_
  refine ww_iadd hx hb dL_law_1176 ?_
  refine ww_sld hx hb hX hbl hbA h1 dL_law_1177 ?_
  refine ww_swap ?_
  refine ww_callVF hx hb hml hown hts hN hA hK1 hcs.1 hcs.2 (WO o cL f1 ++ WC q cA σ1) [.int (xs (Int32.toNatClampNeg (x4 + 1)))] [] (m_X5_begins τ (xs (Int32.toNatClampNeg (x4 + 1))) _ τ1 e2) cs_L_147 rfl (by decide) rfl ((hDD _ _ _).sw) rfl 0 rfl rfl rfl (Nat.le_of_ble_eq_true rfl) dL_law_1178 ?_
  refine ww_istore (i := 6) (lv1 := [(0, .ref b), (1, .ref (q 0)), (2, .ref (q2 0)), (3, .ref o), (4, .int x4), (5, .int k), (6, .int bb)]) hx hb dL_law_1181 (by decide) [1, 2, 3, 4, 5, 6, 0] rfl ?_
  refine ww_aload_n hx hb dL_law_1183 rfl 2 rfl ?_
  refine ww_callVF hx hb hml hown hts hN hA hK1 hcs.1 hcs.2 (WO o cL f1 ++ WC q cA σ1) [] [] (m_X5_thrown τ1) cs_L_83 rfl (by decide) rfl ((hDD _ _ _).sw) rfl 0 rfl rfl rfl (Nat.le_of_ble_eq_true rfl) dL_law_1184 ?_
  refine ww_iload hx hb dL_law_1187 5 rfl ?_
  refine ww_eq2 (tgt := 1194) hx hb dL_law_1189 (by decide) (fun c_1 => ?_) (fun c_1 => ?_)
  · refine ww_iload hx hb dL_law_1194 5 rfl ?_
    refine ww_ne0 (tgt := 1211) hx hb dL_law_1196 (by decide) (fun hk0 => ?_) (fun hk0 => ?_)
    · refine ww_goto (tgt := 1434) hx hb dL_law_1211 (by decide) ?_
      refine ww_swap ?_
      refine ww_sub (lv1 := [(0, .ref b), (1, .ref (q 0)), (2, .ref (q2 0)), (3, .ref o), (4, .int x4)]) [0, 1, 2, 3, 4] rfl ?_
      exact ww_widen (by omega) (by omega) (kk _ _ _ R1)
    · refine ww_aload_n hx hb dL_law_1199 rfl 3 rfl ?_
      refine ww_iconst (v := 0) hx hb dL_law_1200 (by decide) ?_
      refine ww_lald (i := 0) hx hb hown hts hK 0 1 rfl rfl in0 dL_law_1201 ?_
      refine ww_iload hx hb dL_law_1202 6 rfl ?_
      refine ww_i2l hx hb dL_law_1204 ?_
      refine ww_lcmp hx hb dL_law_1205 ?_
      refine ww_eq0 (tgt := 1211) hx hb dL_law_1206 (by decide) (fun c_3 => ?_) (fun c_3 => ?_)
      · refine ww_goto (tgt := 1434) hx hb dL_law_1211 (by decide) ?_
        refine ww_swap ?_
        refine ww_sub (lv1 := [(0, .ref b), (1, .ref (q 0)), (2, .ref (q2 0)), (3, .ref o), (4, .int x4)]) [0, 1, 2, 3, 4] rfl ?_
        exact ww_widen (by omega) (by omega) (kk _ _ _ R1)
      · exact absurd (by rw [ho hk0]; exact lg_cmp_self _) c_3
  · exact absurd hth c_1
set_option maxHeartbeats 4000000 in
set_option maxRecDepth 100000 in
theorem lc_18 {p : Program} {l : Launch} {e : Env} {s : State} {m : MethodId} {below : List Frame} {meth : Method} {c : Code} {D : va_G} {q q2 : Nat → Nat} {o : Nat} {cA cL : ClassId} {b L : Nat} {xs : Nat → Int32} (C : LC p l s m meth c D q q2 o cA cL b L xs) {cells slots : Nat} (hcs : cells + 1 ≤ room_1.cells ∧ slots + 6 ≤ room_1.slots) {x4 : Int32} (h1 : vp_in (x4 + 1) L) (h2 : vp_in (x4 + 2) L) (h3 : vp_in (x4 + 3) L) (h4 : vp_in (x4 + 4) L) (h5 : vp_in (x4 + 5) L) {σ τ : SS} (f : Nat → Int64) {j : Nat} (hj : j < 512) (R : Rel j σ τ) (kk : ∀ (σ1 τ1 : SS) (f1 : Nat → Int64), Rel (j + 1) σ1 τ1 → LW p l e s m below meth c D q q2 o cA cL b (cells + 1) (slots + 6) σ1 τ1 f1 1434 x4) : LW p l e s m below meth c D q q2 o cA cL b cells slots σ τ f 1214 x4 := by
  obtain ⟨hx, hb, hr, hlk, hml, hown, hts, hK, hN, hZ, hX, hbl, hDD, hl0⟩ := C
  have hK1 : va_K D vwCl [(cA, .int)] s := hK.sub [0] rfl
  have hA : ∀ q : Nat, s.heap.size ≤ q → (fun q : Nat => s.heap.size ≤ q) q := fun _ h => h
  have hbA : ¬ (fun q : Nat => s.heap.size ≤ q) b := Nat.not_le.mpr hbl
  refine ww_aload_n hx hb dL_law_1214 rfl 1 rfl ?_
  refine ww_aload_n hx hb dL_law_1215 rfl 0 rfl ?_
  refine ww_iload hx hb dL_law_1216 4 rfl ?_
  refine ww_iconst (v := 1) hx hb dL_law_1218 (by decide) ?_
  refine ww_iadd hx hb dL_law_1219 ?_
  refine ww_sld hx hb hX hbl hbA h1 dL_law_1220 ?_
  refine ww_aload_n hx hb dL_law_1221 rfl 3 rfl ?_
  obtain ⟨r, σ1, bb, τ1, e1, e2, R1, ag⟩ := st_left hj R (xs (Int32.toNatClampNeg (x4 + 1)))
  obtain ⟨k, f1, hk, hth, ho⟩ := agr_int ag f
  refine ww_callH hx hb hml hown hts hK hN hA hZ (WR q2 cA τ) [.ref (q 0), .int (xs (Int32.toNatClampNeg (x4 + 1))), .ref o] [] (mL_left hl0 σ (xs (Int32.toNatClampNeg (x4 + 1))) f r σ1 e1 k f1 hk) cs_L_148 rfl (by decide) hcs rfl (hDD _ _ _) rfl rfl (Nat.le_of_ble_eq_true rfl) dL_law_1222 ?_
  refine ww_istore (i := 5) (lv1 := [(0, .ref b), (1, .ref (q 0)), (2, .ref (q2 0)), (3, .ref o), (4, .int x4), (5, .int k)]) hx hb dL_law_1225 (by decide) [1, 2, 3, 4, 5, 0] rfl ?_
  refine ww_aload_n hx hb dL_law_1227 rfl 2 rfl ?_
  refine ww_aload_n hx hb dL_law_1228 rfl 0 rfl ?_
  refine ww_iload hx hb dL_law_1229 4 rfl ?_
  refine ww_iconst (v := 1) hx hb dL_law_1231 (by decide) ?_
  refine ww_iadd hx hb dL_law_1232 ?_
  refine ww_sld hx hb hX hbl hbA h1 dL_law_1233 ?_
  refine ww_swap ?_
  refine ww_callVF hx hb hml hown hts hN hA hK1 hcs.1 hcs.2 (WO o cL f1 ++ WC q cA σ1) [.int (xs (Int32.toNatClampNeg (x4 + 1)))] [] (m_X5_left τ (xs (Int32.toNatClampNeg (x4 + 1))) _ τ1 e2) cs_L_150 rfl (by decide) rfl ((hDD _ _ _).sw) rfl 0 rfl rfl rfl (Nat.le_of_ble_eq_true rfl) dL_law_1234 ?_
  refine ww_istore (i := 6) (lv1 := [(0, .ref b), (1, .ref (q 0)), (2, .ref (q2 0)), (3, .ref o), (4, .int x4), (5, .int k), (6, .int bb)]) hx hb dL_law_1237 (by decide) [1, 2, 3, 4, 5, 6, 0] rfl ?_
  refine ww_aload_n hx hb dL_law_1239 rfl 2 rfl ?_
  refine ww_callVF hx hb hml hown hts hN hA hK1 hcs.1 hcs.2 (WO o cL f1 ++ WC q cA σ1) [] [] (m_X5_thrown τ1) cs_L_83 rfl (by decide) rfl ((hDD _ _ _).sw) rfl 0 rfl rfl rfl (Nat.le_of_ble_eq_true rfl) dL_law_1240 ?_
  refine ww_iload hx hb dL_law_1243 5 rfl ?_
  refine ww_eq2 (tgt := 1250) hx hb dL_law_1245 (by decide) (fun c_1 => ?_) (fun c_1 => ?_)
  · refine ww_iload hx hb dL_law_1250 5 rfl ?_
    refine ww_ne0 (tgt := 1267) hx hb dL_law_1252 (by decide) (fun hk0 => ?_) (fun hk0 => ?_)
    · refine ww_goto (tgt := 1434) hx hb dL_law_1267 (by decide) ?_
      refine ww_swap ?_
      refine ww_sub (lv1 := [(0, .ref b), (1, .ref (q 0)), (2, .ref (q2 0)), (3, .ref o), (4, .int x4)]) [0, 1, 2, 3, 4] rfl ?_
      exact ww_widen (by omega) (by omega) (kk _ _ _ R1)
    · refine ww_aload_n hx hb dL_law_1255 rfl 3 rfl ?_
      refine ww_iconst (v := 0) hx hb dL_law_1256 (by decide) ?_
      refine ww_lald (i := 0) hx hb hown hts hK 0 1 rfl rfl in0 dL_law_1257 ?_
      refine ww_iload hx hb dL_law_1258 6 rfl ?_
      refine ww_i2l hx hb dL_law_1260 ?_
      refine ww_lcmp hx hb dL_law_1261 ?_
      refine ww_eq0 (tgt := 1267) hx hb dL_law_1262 (by decide) (fun c_3 => ?_) (fun c_3 => ?_)
      · refine ww_goto (tgt := 1434) hx hb dL_law_1267 (by decide) ?_
        refine ww_swap ?_
        refine ww_sub (lv1 := [(0, .ref b), (1, .ref (q 0)), (2, .ref (q2 0)), (3, .ref o), (4, .int x4)]) [0, 1, 2, 3, 4] rfl ?_
        exact ww_widen (by omega) (by omega) (kk _ _ _ R1)
      · exact absurd (by rw [ho hk0]; exact lg_cmp_self _) c_3
  · exact absurd hth c_1
set_option maxHeartbeats 4000000 in
set_option maxRecDepth 100000 in
theorem lc_19 {p : Program} {l : Launch} {e : Env} {s : State} {m : MethodId} {below : List Frame} {meth : Method} {c : Code} {D : va_G} {q q2 : Nat → Nat} {o : Nat} {cA cL : ClassId} {b L : Nat} {xs : Nat → Int32} (C : LC p l s m meth c D q q2 o cA cL b L xs) {cells slots : Nat} (hcs : cells + 1 ≤ room_1.cells ∧ slots + 6 ≤ room_1.slots) {x4 : Int32} (h1 : vp_in (x4 + 1) L) (h2 : vp_in (x4 + 2) L) (h3 : vp_in (x4 + 3) L) (h4 : vp_in (x4 + 4) L) (h5 : vp_in (x4 + 5) L) {σ τ : SS} (f : Nat → Int64) {j : Nat} (hj : j < 512) (R : Rel j σ τ) (kk : ∀ (σ1 τ1 : SS) (f1 : Nat → Int64), Rel (j + 1) σ1 τ1 → LW p l e s m below meth c D q q2 o cA cL b (cells + 1) (slots + 6) σ1 τ1 f1 1434 x4) : LW p l e s m below meth c D q q2 o cA cL b cells slots σ τ f 1270 x4 := by
  obtain ⟨hx, hb, hr, hlk, hml, hown, hts, hK, hN, hZ, hX, hbl, hDD, hl0⟩ := C
  have hK1 : va_K D vwCl [(cA, .int)] s := hK.sub [0] rfl
  have hA : ∀ q : Nat, s.heap.size ≤ q → (fun q : Nat => s.heap.size ≤ q) q := fun _ h => h
  have hbA : ¬ (fun q : Nat => s.heap.size ≤ q) b := Nat.not_le.mpr hbl
  refine ww_aload_n hx hb dL_law_1270 rfl 1 rfl ?_
  obtain ⟨τ1, e2, R1⟩ := st_fee hj R
  refine ww_callVF hx hb hml hown hts hN hA hK1 (Nat.le_trans (Nat.le_add_right _ _) hcs.1) (Nat.le_trans (Nat.le_add_right _ _) hcs.2) (WR q2 cA τ ++ WO o cL f) [] [] (m_X4_fee σ) cs_L_151 rfl (by decide) (List.append_assoc _ _ _).symm (hDD _ _ _) rfl 0 rfl rfl rfl (Nat.le_of_ble_eq_true rfl) dL_law_1271 ?_
  refine ww_eq (List.append_assoc _ _ _) ?_
  refine ww_aload_n hx hb dL_law_1274 rfl 2 rfl ?_
  refine ww_swap ?_
  refine ww_callVF hx hb hml hown hts hN hA hK1 (Nat.le_trans (Nat.le_add_right _ _) hcs.1) (Nat.le_trans (Nat.le_add_right _ _) hcs.2) (WO o cL f ++ WC q cA σ) [] [.int (X4_fee σ)] (m_X5_fee τ _ τ1 e2) cs_L_154 rfl (by decide) rfl ((hDD _ _ _).sw) rfl 0 rfl rfl rfl (Nat.le_of_ble_eq_true rfl) dL_law_1275 ?_
  refine ww_eq2 (tgt := 1434) hx hb dL_law_1278 (by decide) (fun c_1 => ?_) (fun c_1 => ?_)
  · refine ww_swap ?_
    refine ww_sub (lv1 := [(0, .ref b), (1, .ref (q 0)), (2, .ref (q2 0)), (3, .ref o), (4, .int x4)]) [0, 1, 2, 3, 4] rfl ?_
    exact ww_widen (by omega) (by omega) (kk _ _ _ R1)
  · exact absurd rfl c_1
set_option maxHeartbeats 4000000 in
set_option maxRecDepth 100000 in
theorem lc_20 {p : Program} {l : Launch} {e : Env} {s : State} {m : MethodId} {below : List Frame} {meth : Method} {c : Code} {D : va_G} {q q2 : Nat → Nat} {o : Nat} {cA cL : ClassId} {b L : Nat} {xs : Nat → Int32} (C : LC p l s m meth c D q q2 o cA cL b L xs) {cells slots : Nat} (hcs : cells + 1 ≤ room_1.cells ∧ slots + 6 ≤ room_1.slots) {x4 : Int32} (h1 : vp_in (x4 + 1) L) (h2 : vp_in (x4 + 2) L) (h3 : vp_in (x4 + 3) L) (h4 : vp_in (x4 + 4) L) (h5 : vp_in (x4 + 5) L) {σ τ : SS} (f : Nat → Int64) {j : Nat} (hj : j < 512) (R : Rel j σ τ) (kk : ∀ (σ1 τ1 : SS) (f1 : Nat → Int64), Rel (j + 1) σ1 τ1 → LW p l e s m below meth c D q q2 o cA cL b (cells + 1) (slots + 6) σ1 τ1 f1 1434 x4) : LW p l e s m below meth c D q q2 o cA cL b cells slots σ τ f 1283 x4 := by
  obtain ⟨hx, hb, hr, hlk, hml, hown, hts, hK, hN, hZ, hX, hbl, hDD, hl0⟩ := C
  have hK1 : va_K D vwCl [(cA, .int)] s := hK.sub [0] rfl
  have hA : ∀ q : Nat, s.heap.size ≤ q → (fun q : Nat => s.heap.size ≤ q) q := fun _ h => h
  have hbA : ¬ (fun q : Nat => s.heap.size ≤ q) b := Nat.not_le.mpr hbl
  refine ww_aload_n hx hb dL_law_1283 rfl 1 rfl ?_
  obtain ⟨τ1, e2, R1⟩ := st_costs hj R
  refine ww_callVF hx hb hml hown hts hN hA hK1 (Nat.le_trans (Nat.le_add_right _ _) hcs.1) (Nat.le_trans (Nat.le_add_right _ _) hcs.2) (WR q2 cA τ ++ WO o cL f) [] [] (m_X4_costs σ) cs_L_155 rfl (by decide) (List.append_assoc _ _ _).symm (hDD _ _ _) rfl 0 rfl rfl rfl (Nat.le_of_ble_eq_true rfl) dL_law_1284 ?_
  refine ww_eq (List.append_assoc _ _ _) ?_
  refine ww_aload_n hx hb dL_law_1287 rfl 2 rfl ?_
  refine ww_swap ?_
  refine ww_callVF hx hb hml hown hts hN hA hK1 (Nat.le_trans (Nat.le_add_right _ _) hcs.1) (Nat.le_trans (Nat.le_add_right _ _) hcs.2) (WO o cL f ++ WC q cA σ) [] [.int (X4_costs σ)] (m_X5_costs τ _ τ1 e2) cs_L_158 rfl (by decide) rfl ((hDD _ _ _).sw) rfl 0 rfl rfl rfl (Nat.le_of_ble_eq_true rfl) dL_law_1288 ?_
  refine ww_eq2 (tgt := 1434) hx hb dL_law_1291 (by decide) (fun c_1 => ?_) (fun c_1 => ?_)
  · refine ww_swap ?_
    refine ww_sub (lv1 := [(0, .ref b), (1, .ref (q 0)), (2, .ref (q2 0)), (3, .ref o), (4, .int x4)]) [0, 1, 2, 3, 4] rfl ?_
    exact ww_widen (by omega) (by omega) (kk _ _ _ R1)
  · exact absurd rfl c_1
set_option maxHeartbeats 4000000 in
set_option maxRecDepth 100000 in
theorem lc_21 {p : Program} {l : Launch} {e : Env} {s : State} {m : MethodId} {below : List Frame} {meth : Method} {c : Code} {D : va_G} {q q2 : Nat → Nat} {o : Nat} {cA cL : ClassId} {b L : Nat} {xs : Nat → Int32} (C : LC p l s m meth c D q q2 o cA cL b L xs) {cells slots : Nat} (hcs : cells + 1 ≤ room_1.cells ∧ slots + 6 ≤ room_1.slots) {x4 : Int32} (h1 : vp_in (x4 + 1) L) (h2 : vp_in (x4 + 2) L) (h3 : vp_in (x4 + 3) L) (h4 : vp_in (x4 + 4) L) (h5 : vp_in (x4 + 5) L) {σ τ : SS} (f : Nat → Int64) {j : Nat} (hj : j < 512) (R : Rel j σ τ) (kk : ∀ (σ1 τ1 : SS) (f1 : Nat → Int64), Rel (j + 1) σ1 τ1 → LW p l e s m below meth c D q q2 o cA cL b (cells + 1) (slots + 6) σ1 τ1 f1 1434 x4) : LW p l e s m below meth c D q q2 o cA cL b cells slots σ τ f 1296 x4 := by
  obtain ⟨hx, hb, hr, hlk, hml, hown, hts, hK, hN, hZ, hX, hbl, hDD, hl0⟩ := C
  have hK1 : va_K D vwCl [(cA, .int)] s := hK.sub [0] rfl
  have hA : ∀ q : Nat, s.heap.size ≤ q → (fun q : Nat => s.heap.size ≤ q) q := fun _ h => h
  have hbA : ¬ (fun q : Nat => s.heap.size ≤ q) b := Nat.not_le.mpr hbl
  refine ww_aload_n hx hb dL_law_1296 rfl 1 rfl ?_
  obtain ⟨τ1, e2, R1⟩ := st_open hj R
  refine ww_callVF hx hb hml hown hts hN hA hK1 (Nat.le_trans (Nat.le_add_right _ _) hcs.1) (Nat.le_trans (Nat.le_add_right _ _) hcs.2) (WR q2 cA τ ++ WO o cL f) [] [] (m_X4_open σ) cs_L_159 rfl (by decide) (List.append_assoc _ _ _).symm (hDD _ _ _) rfl 0 rfl rfl rfl (Nat.le_of_ble_eq_true rfl) dL_law_1297 ?_
  refine ww_eq (List.append_assoc _ _ _) ?_
  refine ww_aload_n hx hb dL_law_1300 rfl 2 rfl ?_
  refine ww_swap ?_
  refine ww_callVF hx hb hml hown hts hN hA hK1 (Nat.le_trans (Nat.le_add_right _ _) hcs.1) (Nat.le_trans (Nat.le_add_right _ _) hcs.2) (WO o cL f ++ WC q cA σ) [] [.int (X4_open σ)] (m_X5_open τ _ τ1 e2) cs_L_162 rfl (by decide) rfl ((hDD _ _ _).sw) rfl 0 rfl rfl rfl (Nat.le_of_ble_eq_true rfl) dL_law_1301 ?_
  refine ww_eq2 (tgt := 1434) hx hb dL_law_1304 (by decide) (fun c_1 => ?_) (fun c_1 => ?_)
  · refine ww_swap ?_
    refine ww_sub (lv1 := [(0, .ref b), (1, .ref (q 0)), (2, .ref (q2 0)), (3, .ref o), (4, .int x4)]) [0, 1, 2, 3, 4] rfl ?_
    exact ww_widen (by omega) (by omega) (kk _ _ _ R1)
  · exact absurd rfl c_1
set_option maxHeartbeats 4000000 in
set_option maxRecDepth 100000 in
theorem lc_22 {p : Program} {l : Launch} {e : Env} {s : State} {m : MethodId} {below : List Frame} {meth : Method} {c : Code} {D : va_G} {q q2 : Nat → Nat} {o : Nat} {cA cL : ClassId} {b L : Nat} {xs : Nat → Int32} (C : LC p l s m meth c D q q2 o cA cL b L xs) {cells slots : Nat} (hcs : cells + 1 ≤ room_1.cells ∧ slots + 6 ≤ room_1.slots) {x4 : Int32} (h1 : vp_in (x4 + 1) L) (h2 : vp_in (x4 + 2) L) (h3 : vp_in (x4 + 3) L) (h4 : vp_in (x4 + 4) L) (h5 : vp_in (x4 + 5) L) {σ τ : SS} (f : Nat → Int64) {j : Nat} (hj : j < 512) (R : Rel j σ τ) (kk : ∀ (σ1 τ1 : SS) (f1 : Nat → Int64), Rel (j + 1) σ1 τ1 → LW p l e s m below meth c D q q2 o cA cL b (cells + 1) (slots + 6) σ1 τ1 f1 1434 x4) : LW p l e s m below meth c D q q2 o cA cL b cells slots σ τ f 1309 x4 := by
  obtain ⟨hx, hb, hr, hlk, hml, hown, hts, hK, hN, hZ, hX, hbl, hDD, hl0⟩ := C
  have hK1 : va_K D vwCl [(cA, .int)] s := hK.sub [0] rfl
  have hA : ∀ q : Nat, s.heap.size ≤ q → (fun q : Nat => s.heap.size ≤ q) q := fun _ h => h
  have hbA : ¬ (fun q : Nat => s.heap.size ≤ q) b := Nat.not_le.mpr hbl
  refine ww_aload_n hx hb dL_law_1309 rfl 1 rfl ?_
  refine ww_aload_n hx hb dL_law_1310 rfl 0 rfl ?_
  refine ww_iload hx hb dL_law_1311 4 rfl ?_
  refine ww_iconst (v := 1) hx hb dL_law_1313 (by decide) ?_
  refine ww_iadd hx hb dL_law_1314 ?_
  refine ww_sld hx hb hX hbl hbA h1 dL_law_1315 ?_
  refine ww_aload_n hx hb dL_law_1316 rfl 3 rfl ?_
  obtain ⟨r, σ1, bb, τ1, e1, e2, R1, ag⟩ := st_openOf hj R (xs (Int32.toNatClampNeg (x4 + 1)))
  obtain ⟨k, f1, hk, hth, ho⟩ := agr_int ag f
  refine ww_callH hx hb hml hown hts hK hN hA hZ (WR q2 cA τ) [.ref (q 0), .int (xs (Int32.toNatClampNeg (x4 + 1))), .ref o] [] (mL_openOf hl0 σ (xs (Int32.toNatClampNeg (x4 + 1))) f r σ1 e1 k f1 hk) cs_L_163 rfl (by decide) hcs rfl (hDD _ _ _) rfl rfl (Nat.le_of_ble_eq_true rfl) dL_law_1317 ?_
  refine ww_istore (i := 5) (lv1 := [(0, .ref b), (1, .ref (q 0)), (2, .ref (q2 0)), (3, .ref o), (4, .int x4), (5, .int k)]) hx hb dL_law_1320 (by decide) [1, 2, 3, 4, 5, 0] rfl ?_
  refine ww_aload_n hx hb dL_law_1322 rfl 2 rfl ?_
  refine ww_aload_n hx hb dL_law_1323 rfl 0 rfl ?_
  refine ww_iload hx hb dL_law_1324 4 rfl ?_
  refine ww_iconst (v := 1) hx hb dL_law_1326 (by decide) ?_
  refine ww_iadd hx hb dL_law_1327 ?_
  refine ww_sld hx hb hX hbl hbA h1 dL_law_1328 ?_
  refine ww_swap ?_
  refine ww_callVF hx hb hml hown hts hN hA hK1 hcs.1 hcs.2 (WO o cL f1 ++ WC q cA σ1) [.int (xs (Int32.toNatClampNeg (x4 + 1)))] [] (m_X5_openOf τ (xs (Int32.toNatClampNeg (x4 + 1))) _ τ1 e2) cs_L_165 rfl (by decide) rfl ((hDD _ _ _).sw) rfl 0 rfl rfl rfl (Nat.le_of_ble_eq_true rfl) dL_law_1329 ?_
  refine ww_istore (i := 6) (lv1 := [(0, .ref b), (1, .ref (q 0)), (2, .ref (q2 0)), (3, .ref o), (4, .int x4), (5, .int k), (6, .int bb)]) hx hb dL_law_1332 (by decide) [1, 2, 3, 4, 5, 6, 0] rfl ?_
  refine ww_aload_n hx hb dL_law_1334 rfl 2 rfl ?_
  refine ww_callVF hx hb hml hown hts hN hA hK1 hcs.1 hcs.2 (WO o cL f1 ++ WC q cA σ1) [] [] (m_X5_thrown τ1) cs_L_83 rfl (by decide) rfl ((hDD _ _ _).sw) rfl 0 rfl rfl rfl (Nat.le_of_ble_eq_true rfl) dL_law_1335 ?_
  refine ww_iload hx hb dL_law_1338 5 rfl ?_
  refine ww_eq2 (tgt := 1345) hx hb dL_law_1340 (by decide) (fun c_1 => ?_) (fun c_1 => ?_)
  · refine ww_iload hx hb dL_law_1345 5 rfl ?_
    refine ww_ne0 (tgt := 1362) hx hb dL_law_1347 (by decide) (fun hk0 => ?_) (fun hk0 => ?_)
    · refine ww_goto (tgt := 1434) hx hb dL_law_1362 (by decide) ?_
      refine ww_swap ?_
      refine ww_sub (lv1 := [(0, .ref b), (1, .ref (q 0)), (2, .ref (q2 0)), (3, .ref o), (4, .int x4)]) [0, 1, 2, 3, 4] rfl ?_
      exact ww_widen (by omega) (by omega) (kk _ _ _ R1)
    · refine ww_aload_n hx hb dL_law_1350 rfl 3 rfl ?_
      refine ww_iconst (v := 0) hx hb dL_law_1351 (by decide) ?_
      refine ww_lald (i := 0) hx hb hown hts hK 0 1 rfl rfl in0 dL_law_1352 ?_
      refine ww_iload hx hb dL_law_1353 6 rfl ?_
      refine ww_i2l hx hb dL_law_1355 ?_
      refine ww_lcmp hx hb dL_law_1356 ?_
      refine ww_eq0 (tgt := 1362) hx hb dL_law_1357 (by decide) (fun c_3 => ?_) (fun c_3 => ?_)
      · refine ww_goto (tgt := 1434) hx hb dL_law_1362 (by decide) ?_
        refine ww_swap ?_
        refine ww_sub (lv1 := [(0, .ref b), (1, .ref (q 0)), (2, .ref (q2 0)), (3, .ref o), (4, .int x4)]) [0, 1, 2, 3, 4] rfl ?_
        exact ww_widen (by omega) (by omega) (kk _ _ _ R1)
      · exact absurd (by rw [ho hk0]; exact lg_cmp_self _) c_3
  · exact absurd hth c_1
set_option maxHeartbeats 4000000 in
set_option maxRecDepth 100000 in
theorem lc_23 {p : Program} {l : Launch} {e : Env} {s : State} {m : MethodId} {below : List Frame} {meth : Method} {c : Code} {D : va_G} {q q2 : Nat → Nat} {o : Nat} {cA cL : ClassId} {b L : Nat} {xs : Nat → Int32} (C : LC p l s m meth c D q q2 o cA cL b L xs) {cells slots : Nat} (hcs : cells + 1 ≤ room_1.cells ∧ slots + 6 ≤ room_1.slots) {x4 : Int32} (h1 : vp_in (x4 + 1) L) (h2 : vp_in (x4 + 2) L) (h3 : vp_in (x4 + 3) L) (h4 : vp_in (x4 + 4) L) (h5 : vp_in (x4 + 5) L) {σ τ : SS} (f : Nat → Int64) {j : Nat} (hj : j < 512) (R : Rel j σ τ) (kk : ∀ (σ1 τ1 : SS) (f1 : Nat → Int64), Rel (j + 1) σ1 τ1 → LW p l e s m below meth c D q q2 o cA cL b (cells + 1) (slots + 6) σ1 τ1 f1 1434 x4) : LW p l e s m below meth c D q q2 o cA cL b cells slots σ τ f 1365 x4 := by
  obtain ⟨hx, hb, hr, hlk, hml, hown, hts, hK, hN, hZ, hX, hbl, hDD, hl0⟩ := C
  have hK1 : va_K D vwCl [(cA, .int)] s := hK.sub [0] rfl
  have hA : ∀ q : Nat, s.heap.size ≤ q → (fun q : Nat => s.heap.size ≤ q) q := fun _ h => h
  have hbA : ¬ (fun q : Nat => s.heap.size ≤ q) b := Nat.not_le.mpr hbl
  refine ww_aload_n hx hb dL_law_1365 rfl 1 rfl ?_
  refine ww_aload_n hx hb dL_law_1366 rfl 0 rfl ?_
  refine ww_iload hx hb dL_law_1367 4 rfl ?_
  refine ww_iconst (v := 1) hx hb dL_law_1369 (by decide) ?_
  refine ww_iadd hx hb dL_law_1370 ?_
  refine ww_sld hx hb hX hbl hbA h1 dL_law_1371 ?_
  refine ww_aload_n hx hb dL_law_1372 rfl 3 rfl ?_
  obtain ⟨r, σ1, bb, τ1, e1, e2, R1, ag⟩ := st_got hj R (xs (Int32.toNatClampNeg (x4 + 1)))
  obtain ⟨k, f1, hk, hth, ho⟩ := agr_int ag f
  refine ww_callH hx hb hml hown hts hK hN hA hZ (WR q2 cA τ) [.ref (q 0), .int (xs (Int32.toNatClampNeg (x4 + 1))), .ref o] [] (mL_got hl0 σ (xs (Int32.toNatClampNeg (x4 + 1))) f r σ1 e1 k f1 hk) cs_L_166 rfl (by decide) hcs rfl (hDD _ _ _) rfl rfl (Nat.le_of_ble_eq_true rfl) dL_law_1373 ?_
  refine ww_istore (i := 5) (lv1 := [(0, .ref b), (1, .ref (q 0)), (2, .ref (q2 0)), (3, .ref o), (4, .int x4), (5, .int k)]) hx hb dL_law_1376 (by decide) [1, 2, 3, 4, 5, 0] rfl ?_
  refine ww_aload_n hx hb dL_law_1378 rfl 2 rfl ?_
  refine ww_aload_n hx hb dL_law_1379 rfl 0 rfl ?_
  refine ww_iload hx hb dL_law_1380 4 rfl ?_
  refine ww_iconst (v := 1) hx hb dL_law_1382 (by decide) ?_
  refine ww_iadd hx hb dL_law_1383 ?_
  refine ww_sld hx hb hX hbl hbA h1 dL_law_1384 ?_
  refine ww_swap ?_
  refine ww_callVF hx hb hml hown hts hN hA hK1 hcs.1 hcs.2 (WO o cL f1 ++ WC q cA σ1) [.int (xs (Int32.toNatClampNeg (x4 + 1)))] [] (m_X5_got τ (xs (Int32.toNatClampNeg (x4 + 1))) _ τ1 e2) cs_L_168 rfl (by decide) rfl ((hDD _ _ _).sw) rfl 0 rfl rfl rfl (Nat.le_of_ble_eq_true rfl) dL_law_1385 ?_
  refine ww_istore (i := 6) (lv1 := [(0, .ref b), (1, .ref (q 0)), (2, .ref (q2 0)), (3, .ref o), (4, .int x4), (5, .int k), (6, .int bb)]) hx hb dL_law_1388 (by decide) [1, 2, 3, 4, 5, 6, 0] rfl ?_
  refine ww_aload_n hx hb dL_law_1390 rfl 2 rfl ?_
  refine ww_callVF hx hb hml hown hts hN hA hK1 hcs.1 hcs.2 (WO o cL f1 ++ WC q cA σ1) [] [] (m_X5_thrown τ1) cs_L_83 rfl (by decide) rfl ((hDD _ _ _).sw) rfl 0 rfl rfl rfl (Nat.le_of_ble_eq_true rfl) dL_law_1391 ?_
  refine ww_iload hx hb dL_law_1394 5 rfl ?_
  refine ww_eq2 (tgt := 1401) hx hb dL_law_1396 (by decide) (fun c_1 => ?_) (fun c_1 => ?_)
  · refine ww_iload hx hb dL_law_1401 5 rfl ?_
    refine ww_ne0 (tgt := 1418) hx hb dL_law_1403 (by decide) (fun hk0 => ?_) (fun hk0 => ?_)
    · refine ww_goto (tgt := 1434) hx hb dL_law_1418 (by decide) ?_
      refine ww_swap ?_
      refine ww_sub (lv1 := [(0, .ref b), (1, .ref (q 0)), (2, .ref (q2 0)), (3, .ref o), (4, .int x4)]) [0, 1, 2, 3, 4] rfl ?_
      exact ww_widen (by omega) (by omega) (kk _ _ _ R1)
    · refine ww_aload_n hx hb dL_law_1406 rfl 3 rfl ?_
      refine ww_iconst (v := 0) hx hb dL_law_1407 (by decide) ?_
      refine ww_lald (i := 0) hx hb hown hts hK 0 1 rfl rfl in0 dL_law_1408 ?_
      refine ww_iload hx hb dL_law_1409 6 rfl ?_
      refine ww_i2l hx hb dL_law_1411 ?_
      refine ww_lcmp hx hb dL_law_1412 ?_
      refine ww_eq0 (tgt := 1418) hx hb dL_law_1413 (by decide) (fun c_3 => ?_) (fun c_3 => ?_)
      · refine ww_goto (tgt := 1434) hx hb dL_law_1418 (by decide) ?_
        refine ww_swap ?_
        refine ww_sub (lv1 := [(0, .ref b), (1, .ref (q 0)), (2, .ref (q2 0)), (3, .ref o), (4, .int x4)]) [0, 1, 2, 3, 4] rfl ?_
        exact ww_widen (by omega) (by omega) (kk _ _ _ R1)
      · exact absurd (by rw [ho hk0]; exact lg_cmp_self _) c_3
  · exact absurd hth c_1
set_option maxHeartbeats 4000000 in
set_option maxRecDepth 100000 in
theorem lc_24 {p : Program} {l : Launch} {e : Env} {s : State} {m : MethodId} {below : List Frame} {meth : Method} {c : Code} {D : va_G} {q q2 : Nat → Nat} {o : Nat} {cA cL : ClassId} {b L : Nat} {xs : Nat → Int32} (C : LC p l s m meth c D q q2 o cA cL b L xs) {cells slots : Nat} (hcs : cells + 1 ≤ room_1.cells ∧ slots + 6 ≤ room_1.slots) {x4 : Int32} (h1 : vp_in (x4 + 1) L) (h2 : vp_in (x4 + 2) L) (h3 : vp_in (x4 + 3) L) (h4 : vp_in (x4 + 4) L) (h5 : vp_in (x4 + 5) L) {σ τ : SS} (f : Nat → Int64) {j : Nat} (hj : j < 512) (R : Rel j σ τ) (kk : ∀ (σ1 τ1 : SS) (f1 : Nat → Int64), Rel (j + 1) σ1 τ1 → LW p l e s m below meth c D q q2 o cA cL b (cells + 1) (slots + 6) σ1 τ1 f1 1434 x4) : LW p l e s m below meth c D q q2 o cA cL b cells slots σ τ f 1421 x4 := by
  obtain ⟨hx, hb, hr, hlk, hml, hown, hts, hK, hN, hZ, hX, hbl, hDD, hl0⟩ := C
  have hK1 : va_K D vwCl [(cA, .int)] s := hK.sub [0] rfl
  have hA : ∀ q : Nat, s.heap.size ≤ q → (fun q : Nat => s.heap.size ≤ q) q := fun _ h => h
  have hbA : ¬ (fun q : Nat => s.heap.size ≤ q) b := Nat.not_le.mpr hbl
  refine ww_aload_n hx hb dL_law_1421 rfl 1 rfl ?_
  obtain ⟨τ1, e2, R1⟩ := st_house hj R
  refine ww_callVF hx hb hml hown hts hN hA hK1 (Nat.le_trans (Nat.le_add_right _ _) hcs.1) (Nat.le_trans (Nat.le_add_right _ _) hcs.2) (WR q2 cA τ ++ WO o cL f) [] [] (m_X4_house σ) cs_L_169 rfl (by decide) (List.append_assoc _ _ _).symm (hDD _ _ _) rfl 0 rfl rfl rfl (Nat.le_of_ble_eq_true rfl) dL_law_1422 ?_
  refine ww_eq (List.append_assoc _ _ _) ?_
  refine ww_aload_n hx hb dL_law_1425 rfl 2 rfl ?_
  refine ww_swap ?_
  refine ww_callVF hx hb hml hown hts hN hA hK1 (Nat.le_trans (Nat.le_add_right _ _) hcs.1) (Nat.le_trans (Nat.le_add_right _ _) hcs.2) (WO o cL f ++ WC q cA σ) [] [.int (X4_house σ)] (m_X5_house τ _ τ1 e2) cs_L_172 rfl (by decide) rfl ((hDD _ _ _).sw) rfl 0 rfl rfl rfl (Nat.le_of_ble_eq_true rfl) dL_law_1426 ?_
  refine ww_eq2 (tgt := 1434) hx hb dL_law_1429 (by decide) (fun c_1 => ?_) (fun c_1 => ?_)
  · refine ww_swap ?_
    refine ww_sub (lv1 := [(0, .ref b), (1, .ref (q 0)), (2, .ref (q2 0)), (3, .ref o), (4, .int x4)]) [0, 1, 2, 3, 4] rfl ?_
    exact ww_widen (by omega) (by omega) (kk _ _ _ R1)
  · exact absurd rfl c_1
