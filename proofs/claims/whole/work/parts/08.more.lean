section QN
variable {p : Program} {l : Launch} {e : Env} {R : Room} {s : State} {m : MethodId} {args : Array Value} {below : List Frame} {meth : Method} {c : Code} {H : Heap} {locs : List Loc} {cells slots : Nat} {Q : State → Prop}
variable {pc : Nat} {ls : Array Slot} {rest : List Value}
/-- the reference on top gets a name -/
theorem q_nr {v : Option Nat} (k : ∀ r : Option Nat, r = v → W p l e R s m args below meth c H locs cells slots Q (F0 m pc ls (va_rf r :: rest))) : W p l e R s m args below meth c H locs cells slots Q (F0 m pc ls (va_rf v :: rest)) := k v rfl
/-- what is on top, said otherwise -/
theorem q_tr {v v' : Option Nat} (h : v = v') (k : W p l e R s m args below meth c H locs cells slots Q (F0 m pc ls (va_rf v' :: rest))) : W p l e R s m args below meth c H locs cells slots Q (F0 m pc ls (va_rf v :: rest)) := by subst h; exact k
theorem q_ti {v v' : Int32} (h : v = v') (k : W p l e R s m args below meth c H locs cells slots Q (F0 m pc ls (.int v' :: rest))) : W p l e R s m args below meth c H locs cells slots Q (F0 m pc ls (.int v :: rest)) := by subst h; exact k
theorem q_tl {v v' : Int64} (h : v = v') (k : W p l e R s m args below meth c H locs cells slots Q (F0 m pc ls (.long v' :: rest))) : W p l e R s m args below meth c H locs cells slots Q (F0 m pc ls (.long v :: rest)) := by subst h; exact k
end QN
theorem ok_L_count : q_ok yL_count 3 := ⟨by decide +kernel, by decide +kernel, by decide +kernel⟩
theorem ok_L_free : q_ok yL_free 4 := ⟨by decide +kernel, by decide +kernel, by decide +kernel⟩
theorem ok_L_give : q_ok yL_give 3 := ⟨by decide +kernel, by decide +kernel, by decide +kernel⟩
theorem ok_L_join : q_ok yL_join 3 := ⟨by decide +kernel, by decide +kernel, by decide +kernel⟩
theorem ok_L_law : q_ok yL_law 1 := ⟨by decide +kernel, by decide +kernel, by decide +kernel⟩
theorem ok_L_space : q_ok yL_space 3 := ⟨by decide +kernel, by decide +kernel, by decide +kernel⟩
theorem ok_L_suffices : q_ok yL_suffices 3 := ⟨by decide +kernel, by decide +kernel, by decide +kernel⟩
theorem ok_L_take : q_ok yL_take 3 := ⟨by decide +kernel, by decide +kernel, by decide +kernel⟩
theorem ok_X0_init : q_ok yX0_init 3 := ⟨by decide +kernel, by decide +kernel, by decide +kernel⟩
theorem ok_X0_isCrumb : q_ok yX0_isCrumb 0 := ⟨by decide +kernel, by decide +kernel, by decide +kernel⟩
theorem ok_X0_isShelved : q_ok yX0_isShelved 0 := ⟨by decide +kernel, by decide +kernel, by decide +kernel⟩
theorem ok_X1_drop : q_ok yX1_drop 1 := ⟨by decide +kernel, by decide +kernel, by decide +kernel⟩
theorem ok_X1_init : q_ok yX1_init 1 := ⟨by decide +kernel, by decide +kernel, by decide +kernel⟩
theorem ok_X1_kthLatest : q_ok yX1_kthLatest 1 := ⟨by decide +kernel, by decide +kernel, by decide +kernel⟩
theorem ok_X1_push : q_ok yX1_push 1 := ⟨by decide +kernel, by decide +kernel, by decide +kernel⟩
theorem ok_X2_clear : q_ok yX2_clear 0 := ⟨by decide +kernel, by decide +kernel, by decide +kernel⟩
theorem ok_X2_init : q_ok yX2_init 0 := ⟨by decide +kernel, by decide +kernel, by decide +kernel⟩
theorem ok_X2_piecesIn : q_ok yX2_piecesIn 2 := ⟨by decide +kernel, by decide +kernel, by decide +kernel⟩
theorem ok_X2_pullOut : q_ok yX2_pullOut 1 := ⟨by decide +kernel, by decide +kernel, by decide +kernel⟩
theorem ok_X2_putIn : q_ok yX2_putIn 1 := ⟨by decide +kernel, by decide +kernel, by decide +kernel⟩
theorem ok_X2_rowOf : q_ok yX2_rowOf 1 := ⟨by decide +kernel, by decide +kernel, by decide +kernel⟩
theorem ok_X2_smallestFrom : q_ok yX2_smallestFrom 1 := ⟨by decide +kernel, by decide +kernel, by decide +kernel⟩
theorem ok_X2_wrongInRow : q_ok yX2_wrongInRow 2 := ⟨by decide +kernel, by decide +kernel, by decide +kernel⟩
theorem ok_X2_wrongThings : q_ok yX2_wrongThings 2 := ⟨by decide +kernel, by decide +kernel, by decide +kernel⟩
theorem ok_X3_hang : q_ok yX3_hang 3 := ⟨by decide +kernel, by decide +kernel, by decide +kernel⟩
theorem ok_X3_heirOf : q_ok yX3_heirOf 1 := ⟨by decide +kernel, by decide +kernel, by decide +kernel⟩
theorem ok_X3_init : q_ok yX3_init 0 := ⟨by decide +kernel, by decide +kernel, by decide +kernel⟩
theorem ok_X3_leastFrom : q_ok yX3_leastFrom 1 := ⟨by decide +kernel, by decide +kernel, by decide +kernel⟩
theorem ok_X3_parentFor : q_ok yX3_parentFor 1 := ⟨by decide +kernel, by decide +kernel, by decide +kernel⟩
theorem ok_X3_remove : q_ok yX3_remove 1 := ⟨by decide +kernel, by decide +kernel, by decide +kernel⟩
theorem ok_X3_rowMadeFor : q_ok yX3_rowMadeFor 1 := ⟨by decide +kernel, by decide +kernel, by decide +kernel⟩
theorem ok_X3_rowOf : q_ok yX3_rowOf 1 := ⟨by decide +kernel, by decide +kernel, by decide +kernel⟩
theorem ok_X4_init : q_ok yX4_init 0 := ⟨by decide +kernel, by decide +kernel, by decide +kernel⟩
theorem ok_X4_enter : q_ok yX4_enter 3 := ⟨by decide +kernel, by decide +kernel, by decide +kernel⟩
theorem ok_X4_next : q_ok yX4_next 0 := ⟨by decide +kernel, by decide +kernel, by decide +kernel⟩
theorem ok_X5_beginningAt : q_ok yX5_beginningAt 1 := ⟨by decide +kernel, by decide +kernel, by decide +kernel⟩
theorem ok_X5_count : q_ok yX5_count 1 := ⟨by decide +kernel, by decide +kernel, by decide +kernel⟩
theorem ok_X5_cover : q_ok yX5_cover 1 := ⟨by decide +kernel, by decide +kernel, by decide +kernel⟩
theorem ok_X5_crumbCells : q_ok yX5_crumbCells 0 := ⟨by decide +kernel, by decide +kernel, by decide +kernel⟩
theorem ok_X5_crumbs : q_ok yX5_crumbs 0 := ⟨by decide +kernel, by decide +kernel, by decide +kernel⟩
theorem ok_X5_cut : q_ok yX5_cut 2 := ⟨by decide +kernel, by decide +kernel, by decide +kernel⟩
theorem ok_X5_faults : q_ok yX5_faults 0 := ⟨by decide +kernel, by decide +kernel, by decide +kernel⟩
theorem ok_X5_free : q_ok yX5_free 2 := ⟨by decide +kernel, by decide +kernel, by decide +kernel⟩
theorem ok_X5_freeCells : q_ok yX5_freeCells 0 := ⟨by decide +kernel, by decide +kernel, by decide +kernel⟩
theorem ok_X5_give : q_ok yX5_give 1 := ⟨by decide +kernel, by decide +kernel, by decide +kernel⟩
theorem ok_X5_greatestFree : q_ok yX5_greatestFree 0 := ⟨by decide +kernel, by decide +kernel, by decide +kernel⟩
theorem ok_X5_holding : q_ok yX5_holding 1 := ⟨by decide +kernel, by decide +kernel, by decide +kernel⟩
theorem ok_X5_init : q_ok yX5_init 0 := ⟨by decide +kernel, by decide +kernel, by decide +kernel⟩
theorem ok_X5_join : q_ok yX5_join 1 := ⟨by decide +kernel, by decide +kernel, by decide +kernel⟩
theorem ok_X5_joinAll : q_ok yX5_joinAll 0 := ⟨by decide +kernel, by decide +kernel, by decide +kernel⟩
theorem ok_X5_piece : q_ok yX5_piece 1 := ⟨by decide +kernel, by decide +kernel, by decide +kernel⟩
theorem ok_X5_requireSize : q_ok yX5_requireSize 1 := ⟨by decide +kernel, by decide +kernel, by decide +kernel⟩
theorem ok_X5_shelvedPieces : q_ok yX5_shelvedPieces 0 := ⟨by decide +kernel, by decide +kernel, by decide +kernel⟩
theorem ok_X5_space : q_ok yX5_space 1 := ⟨by decide +kernel, by decide +kernel, by decide +kernel⟩
theorem ok_X5_startWith : q_ok yX5_startWith 1 := ⟨by decide +kernel, by decide +kernel, by decide +kernel⟩
theorem ok_X5_suffices : q_ok yX5_suffices 1 := ⟨by decide +kernel, by decide +kernel, by decide +kernel⟩
theorem ok_X5_swallowFreeBehind : q_ok yX5_swallowFreeBehind 1 := ⟨by decide +kernel, by decide +kernel, by decide +kernel⟩
theorem ok_X5_take : q_ok yX5_take 1 := ⟨by decide +kernel, by decide +kernel, by decide +kernel⟩
theorem ok_X5_usedPieces : q_ok yX5_usedPieces 0 := ⟨by decide +kernel, by decide +kernel, by decide +kernel⟩
theorem ok_X6_best : q_ok yX6_best 1 := ⟨by decide +kernel, by decide +kernel, by decide +kernel⟩
theorem ok_X6_count : q_ok yX6_count 1 := ⟨by decide +kernel, by decide +kernel, by decide +kernel⟩
theorem ok_X6_cover : q_ok yX6_cover 1 := ⟨by decide +kernel, by decide +kernel, by decide +kernel⟩
theorem ok_X6_faults : q_ok yX6_faults 0 := ⟨by decide +kernel, by decide +kernel, by decide +kernel⟩
theorem ok_X6_free : q_ok yX6_free 2 := ⟨by decide +kernel, by decide +kernel, by decide +kernel⟩
theorem ok_X6_give : q_ok yX6_give 1 := ⟨by decide +kernel, by decide +kernel, by decide +kernel⟩
theorem ok_X6_goes : q_ok yX6_goes 1 := ⟨by decide +kernel, by decide +kernel, by decide +kernel⟩
theorem ok_X6_greatest : q_ok yX6_greatest 0 := ⟨by decide +kernel, by decide +kernel, by decide +kernel⟩
theorem ok_X6_init : q_ok yX6_init 0 := ⟨by decide +kernel, by decide +kernel, by decide +kernel⟩
theorem ok_X6_join : q_ok yX6_join 1 := ⟨by decide +kernel, by decide +kernel, by decide +kernel⟩
theorem ok_X6_joinAll : q_ok yX6_joinAll 0 := ⟨by decide +kernel, by decide +kernel, by decide +kernel⟩
theorem ok_X6_joined : q_ok yX6_joined 1 := ⟨by decide +kernel, by decide +kernel, by decide +kernel⟩
theorem ok_X6_known : q_ok yX6_known 1 := ⟨by decide +kernel, by decide +kernel, by decide +kernel⟩
theorem ok_X6_length : q_ok yX6_length 1 := ⟨by decide +kernel, by decide +kernel, by decide +kernel⟩
theorem ok_X6_piece : q_ok yX6_piece 1 := ⟨by decide +kernel, by decide +kernel, by decide +kernel⟩
theorem ok_X6_release : q_ok yX6_release 2 := ⟨by decide +kernel, by decide +kernel, by decide +kernel⟩
theorem ok_X6_sized : q_ok yX6_sized 1 := ⟨by decide +kernel, by decide +kernel, by decide +kernel⟩
theorem ok_X6_space : q_ok yX6_space 1 := ⟨by decide +kernel, by decide +kernel, by decide +kernel⟩
theorem ok_X6_suffices : q_ok yX6_suffices 1 := ⟨by decide +kernel, by decide +kernel, by decide +kernel⟩
theorem ok_X6_take : q_ok yX6_take 1 := ⟨by decide +kernel, by decide +kernel, by decide +kernel⟩
theorem ok_X6_thrown : q_ok yX6_thrown 0 := ⟨by decide +kernel, by decide +kernel, by decide +kernel⟩
/-! a start whose arguments are no longs -/
def q_args : Nat → List Value → List (Nat × Value)
  | _, [] => []
  | i, v :: t => (i, v) :: q_args (i + 1) t
def q_1 (av : List Value) : Prop := ∀ v ∈ av, v.category = 1
theorem q_1n : q_1 [] := fun _ h => nomatch h
theorem q_1c {v : Value} {t : List Value} (h : v.category = 1) (ht : q_1 t) : q_1 (v :: t) := fun x hx => (List.mem_cons.mp hx).elim (fun e => by rw [e]; exact h) (ht x)
theorem q_1len : ∀ (av : List Value), q_1 av → (lg_sl av).length = av.length := by
  intro av
  induction av with
  | nil => intro _; rfl
  | cons v t ih =>
    intro h
    have h1 : v.category = 1 := h v List.mem_cons_self
    have h2 := ih (fun x hx => h x (List.mem_cons_of_mem _ hx))
    simp only [lg_sl, List.flatMap_cons, List.length_append, List.length_cons] at h2 ⊢
    rw [h2, h1]
    simp
    omega
theorem q_1args : ∀ (av : List Value) (i : Nat), q_1 av → lv_args i av = q_args i av := by
  intro av
  induction av with
  | nil => intro i _; rfl
  | cons v t ih =>
    intro i h
    have h1 : v.category = 1 := h v List.mem_cons_self
    have h2 := ih (i + 1) (fun x hx => h x (List.mem_cons_of_mem _ hx))
    simp only [lv_args, q_args, h1]
    rw [if_neg (by decide), h2]
theorem q_ofW1 {l : Launch} {y : MethodName} {cc : ByteArray} {n mc ms : Nat} {ret : Option FieldType} {rm : Room} {E : qE} {av : List Value} {S : qS} {Qc : Array Value → State → Outcome → State → Prop} (hy : plainName y.cls = true) (h1 : q_1 av) (hn : av.length ≤ n)
    (body : ∀ (p : Program) (e : Env) (s : State) (m : MethodId) (below : List Frame) (meth : Method) (c : Code), CallFix p m c cc n s av.toArray q_T y.cls → q_V E s S s.heap [] → meth.sig.returnType = ret → meth.locks = false → meth.name = y.name → ∀ ls : Array Slot, lv_has ls n (q_args 0 av) →
      W p l e rm s m av.toArray below meth c s.heap [] 0 0 (MQ below Qc av.toArray s mc ms E.A) (F0 m 0 ls [])) : Met l y [.code y cc n ret] rm (va_Pc av (q_I E S)) Qc mc ms E.A := by
  refine q_ofW hy (by rw [q_1len av h1]; exact hn) (fun p e s m below meth c C hV hr hlk hnm ls hl => ?_)
  rw [q_1args av 0 h1] at hl
  exact body p e s m below meth c C hV hr hlk hnm ls hl
theorem q_sum1 : ∀ (st : List Value), q_1 st → (st.map fun v => v.category).sum = st.length := by
  intro st
  induction st with
  | nil => intro _; rfl
  | cons v t ih =>
    intro h
    rw [List.map_cons, List.sum_cons, h v List.mem_cons_self, ih (fun x hx => h x (List.mem_cons_of_mem _ hx)), List.length_cons]
    omega
theorem q_sm {st : List Value} (h : q_1 st) (hl : st.length ≤ 8) : (st.map fun v => v.category).sum ≤ 8 := by rw [q_sum1 st h]; exact hl
