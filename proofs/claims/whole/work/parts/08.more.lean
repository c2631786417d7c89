section QN
variable {p : Program} {l : Launch} {e : Env} {R : Room} {s : State} {m : MethodId} {args : Array Value} {below : List Frame} {meth : Method} {c : Code} {H : Heap} {locs : List Loc} {cells slots : Nat} {Q : State → Prop}
variable {pc : Nat} {ls : Array Slot} {rest : List Value}
/-- the reference on top gets a name -/
theorem q_nr {v : Option Nat} (k : ∀ r : Option Nat, r = v → W p l e R s m args below meth c H locs cells slots Q (F0 m pc ls (va_rf r :: rest))) : W p l e R s m args below meth c H locs cells slots Q (F0 m pc ls (va_rf v :: rest)) := k v rfl
/-- what is on top, said otherwise -/
theorem q_tr {v v' : Option Nat} (h : v = v') (k : W p l e R s m args below meth c H locs cells slots Q (F0 m pc ls (va_rf v' :: rest))) : W p l e R s m args below meth c H locs cells slots Q (F0 m pc ls (va_rf v :: rest)) := by subst h; exact k
theorem q_ti {v v' : Int32} (h : v = v') (k : W p l e R s m args below meth c H locs cells slots Q (F0 m pc ls (.int v' :: rest))) : W p l e R s m args below meth c H locs cells slots Q (F0 m pc ls (.int v :: rest)) := by subst h; exact k
theorem q_tl {v v' : Int64} (h : v = v') (k : W p l e R s m args below meth c H locs cells slots Q (F0 m pc ls (.long v' :: rest))) : W p l e R s m args below meth c H locs cells slots Q (F0 m pc ls (.long v :: rest)) := by subst h; exact k
end QN
theorem ok_L_count : q_ok yL_count 3 := ⟨by decide +kernel, by decide +kernel, by decide +kernel⟩
theorem ok_L_free : q_ok yL_free 4 := ⟨by decide +kernel, by decide +kernel, by decide +kernel⟩
theorem ok_L_give : q_ok yL_give 3 := ⟨by decide +kernel, by decide +kernel, by decide +kernel⟩
theorem ok_L_join : q_ok yL_join 3 := ⟨by decide +kernel, by decide +kernel, by decide +kernel⟩
theorem ok_L_law : q_ok yL_law 1 := ⟨by decide +kernel, by decide +kernel, by decide +kernel⟩
theorem ok_L_space : q_ok yL_space 3 := ⟨by decide +kernel, by decide +kernel, by decide +kernel⟩
theorem ok_L_suffices : q_ok yL_suffices 3 := ⟨by decide +kernel, by decide +kernel, by decide +kernel⟩
theorem ok_L_take : q_ok yL_take 3 := ⟨by decide +kernel, by decide +kernel, by decide +kernel⟩
theorem ok_X0_init : q_ok yX0_init 3 := ⟨by decide +kernel, by decide +kernel, by decide +kernel⟩
theorem ok_X0_isCrumb : q_ok yX0_isCrumb 0 := ⟨by decide +kernel, by decide +kernel, by decide +kernel⟩
theorem ok_X0_isShelved : q_ok yX0_isShelved 0 := ⟨by decide +kernel, by decide +kernel, by decide +kernel⟩
theorem ok_X1_drop : q_ok yX1_drop 1 := ⟨by decide +kernel, by decide +kernel, by decide +kernel⟩
theorem ok_X1_init : q_ok yX1_init 1 := ⟨by decide +kernel, by decide +kernel, by decide +kernel⟩
theorem ok_X1_kthLatest : q_ok yX1_kthLatest 1 := ⟨by decide +kernel, by decide +kernel, by decide +kernel⟩
theorem ok_X1_push : q_ok yX1_push 1 := ⟨by decide +kernel, by decide +kernel, by decide +kernel⟩
theorem ok_X2_clear : q_ok yX2_clear 0 := ⟨by decide +kernel, by decide +kernel, by decide +kernel⟩
theorem ok_X2_init : q_ok yX2_init 0 := ⟨by decide +kernel, by decide +kernel, by decide +kernel⟩
theorem ok_X2_piecesIn : q_ok yX2_piecesIn 2 := ⟨by decide +kernel, by decide +kernel, by decide +kernel⟩
theorem ok_X2_pullOut : q_ok yX2_pullOut 1 := ⟨by decide +kernel, by decide +kernel, by decide +kernel⟩
theorem ok_X2_putIn : q_ok yX2_putIn 1 := ⟨by decide +kernel, by decide +kernel, by decide +kernel⟩
theorem ok_X2_rowOf : q_ok yX2_rowOf 1 := ⟨by decide +kernel, by decide +kernel, by decide +kernel⟩
theorem ok_X2_smallestFrom : q_ok yX2_smallestFrom 1 := ⟨by decide +kernel, by decide +kernel, by decide +kernel⟩
theorem ok_X2_wrongInRow : q_ok yX2_wrongInRow 2 := ⟨by decide +kernel, by decide +kernel, by decide +kernel⟩
theorem ok_X2_wrongThings : q_ok yX2_wrongThings 2 := ⟨by decide +kernel, by decide +kernel, by decide +kernel⟩
theorem ok_X3_hang : q_ok yX3_hang 3 := ⟨by decide +kernel, by decide +kernel, by decide +kernel⟩
theorem ok_X3_heirOf : q_ok yX3_heirOf 1 := ⟨by decide +kernel, by decide +kernel, by decide +kernel⟩
theorem ok_X3_init : q_ok yX3_init 0 := ⟨by decide +kernel, by decide +kernel, by decide +kernel⟩
theorem ok_X3_leastFrom : q_ok yX3_leastFrom 1 := ⟨by decide +kernel, by decide +kernel, by decide +kernel⟩
theorem ok_X3_parentFor : q_ok yX3_parentFor 1 := ⟨by decide +kernel, by decide +kernel, by decide +kernel⟩
theorem ok_X3_remove : q_ok yX3_remove 1 := ⟨by decide +kernel, by decide +kernel, by decide +kernel⟩
theorem ok_X3_rowMadeFor : q_ok yX3_rowMadeFor 1 := ⟨by decide +kernel, by decide +kernel, by decide +kernel⟩
theorem ok_X3_rowOf : q_ok yX3_rowOf 1 := ⟨by decide +kernel, by decide +kernel, by decide +kernel⟩
theorem ok_X4_beginningAt : q_ok yX4_beginningAt 1 := ⟨by decide +kernel, by decide +kernel, by decide +kernel⟩
theorem ok_X4_count : q_ok yX4_count 1 := ⟨by decide +kernel, by decide +kernel, by decide +kernel⟩
theorem ok_X4_cover : q_ok yX4_cover 1 := ⟨by decide +kernel, by decide +kernel, by decide +kernel⟩
theorem ok_X4_crumbCells : q_ok yX4_crumbCells 0 := ⟨by decide +kernel, by decide +kernel, by decide +kernel⟩
theorem ok_X4_crumbs : q_ok yX4_crumbs 0 := ⟨by decide +kernel, by decide +kernel, by decide +kernel⟩
theorem ok_X4_cut : q_ok yX4_cut 2 := ⟨by decide +kernel, by decide +kernel, by decide +kernel⟩
theorem ok_X4_faults : q_ok yX4_faults 0 := ⟨by decide +kernel, by decide +kernel, by decide +kernel⟩
theorem ok_X4_free : q_ok yX4_free 2 := ⟨by decide +kernel, by decide +kernel, by decide +kernel⟩
theorem ok_X4_freeCells : q_ok yX4_freeCells 0 := ⟨by decide +kernel, by decide +kernel, by decide +kernel⟩
theorem ok_X4_give : q_ok yX4_give 1 := ⟨by decide +kernel, by decide +kernel, by decide +kernel⟩
theorem ok_X4_greatestFree : q_ok yX4_greatestFree 0 := ⟨by decide +kernel, by decide +kernel, by decide +kernel⟩
theorem ok_X4_holding : q_ok yX4_holding 1 := ⟨by decide +kernel, by decide +kernel, by decide +kernel⟩
theorem ok_X4_init : q_ok yX4_init 0 := ⟨by decide +kernel, by decide +kernel, by decide +kernel⟩
theorem ok_X4_join : q_ok yX4_join 1 := ⟨by decide +kernel, by decide +kernel, by decide +kernel⟩
theorem ok_X4_joinAll : q_ok yX4_joinAll 0 := ⟨by decide +kernel, by decide +kernel, by decide +kernel⟩
theorem ok_X4_piece : q_ok yX4_piece 1 := ⟨by decide +kernel, by decide +kernel, by decide +kernel⟩
theorem ok_X4_requireSize : q_ok yX4_requireSize 1 := ⟨by decide +kernel, by decide +kernel, by decide +kernel⟩
theorem ok_X4_shelvedPieces : q_ok yX4_shelvedPieces 0 := ⟨by decide +kernel, by decide +kernel, by decide +kernel⟩
theorem ok_X4_space : q_ok yX4_space 1 := ⟨by decide +kernel, by decide +kernel, by decide +kernel⟩
theorem ok_X4_startWith : q_ok yX4_startWith 1 := ⟨by decide +kernel, by decide +kernel, by decide +kernel⟩
theorem ok_X4_suffices : q_ok yX4_suffices 1 := ⟨by decide +kernel, by decide +kernel, by decide +kernel⟩
theorem ok_X4_swallowFreeBehind : q_ok yX4_swallowFreeBehind 1 := ⟨by decide +kernel, by decide +kernel, by decide +kernel⟩
theorem ok_X4_take : q_ok yX4_take 1 := ⟨by decide +kernel, by decide +kernel, by decide +kernel⟩
theorem ok_X4_usedPieces : q_ok yX4_usedPieces 0 := ⟨by decide +kernel, by decide +kernel, by decide +kernel⟩
theorem ok_X5_best : q_ok yX5_best 1 := ⟨by decide +kernel, by decide +kernel, by decide +kernel⟩
theorem ok_X5_count : q_ok yX5_count 1 := ⟨by decide +kernel, by decide +kernel, by decide +kernel⟩
theorem ok_X5_cover : q_ok yX5_cover 1 := ⟨by decide +kernel, by decide +kernel, by decide +kernel⟩
theorem ok_X5_faults : q_ok yX5_faults 0 := ⟨by decide +kernel, by decide +kernel, by decide +kernel⟩
theorem ok_X5_free : q_ok yX5_free 2 := ⟨by decide +kernel, by decide +kernel, by decide +kernel⟩
theorem ok_X5_give : q_ok yX5_give 1 := ⟨by decide +kernel, by decide +kernel, by decide +kernel⟩
theorem ok_X5_goes : q_ok yX5_goes 1 := ⟨by decide +kernel, by decide +kernel, by decide +kernel⟩
theorem ok_X5_greatest : q_ok yX5_greatest 0 := ⟨by decide +kernel, by decide +kernel, by decide +kernel⟩
theorem ok_X5_init : q_ok yX5_init 0 := ⟨by decide +kernel, by decide +kernel, by decide +kernel⟩
theorem ok_X5_join : q_ok yX5_join 1 := ⟨by decide +kernel, by decide +kernel, by decide +kernel⟩
theorem ok_X5_joinAll : q_ok yX5_joinAll 0 := ⟨by decide +kernel, by decide +kernel, by decide +kernel⟩
theorem ok_X5_joined : q_ok yX5_joined 1 := ⟨by decide +kernel, by decide +kernel, by decide +kernel⟩
theorem ok_X5_known : q_ok yX5_known 1 := ⟨by decide +kernel, by decide +kernel, by decide +kernel⟩
theorem ok_X5_length : q_ok yX5_length 1 := ⟨by decide +kernel, by decide +kernel, by decide +kernel⟩
theorem ok_X5_piece : q_ok yX5_piece 1 := ⟨by decide +kernel, by decide +kernel, by decide +kernel⟩
theorem ok_X5_release : q_ok yX5_release 2 := ⟨by decide +kernel, by decide +kernel, by decide +kernel⟩
theorem ok_X5_sized : q_ok yX5_sized 1 := ⟨by decide +kernel, by decide +kernel, by decide +kernel⟩
theorem ok_X5_space : q_ok yX5_space 1 := ⟨by decide +kernel, by decide +kernel, by decide +kernel⟩
theorem ok_X5_suffices : q_ok yX5_suffices 1 := ⟨by decide +kernel, by decide +kernel, by decide +kernel⟩
theorem ok_X5_take : q_ok yX5_take 1 := ⟨by decide +kernel, by decide +kernel, by decide +kernel⟩
theorem ok_X5_thrown : q_ok yX5_thrown 0 := ⟨by decide +kernel, by decide +kernel, by decide +kernel⟩
