/-! THE POOL: addresses, kinds, int fields, references, longs, lengths of arrays, int arrays, arrays of references.
Kinds: 0 Piece, 1 Row, 2 Shelves, 3 Tree, 4 ChunkShelf, 5 ChunkShelfModel, 6 int array, 7 array of Row, 8 Walk.
I: 0 Piece.at 1 Piece.cells 2 Piece.isFree 3 Piece.awaited 4 Row.cells 5 ChunkShelf.cellCount 6 ChunkShelf.misses 7 Model.thrown 8 Model.cells 9 Model.now 10 Model.failures 11 Row.from 12 Row.to 13 Walk.wrongLinks.
R: 0 Piece.behind 1 Piece.older 2 Row.latest 3 Row.less 4 Row.more 5 Shelves.small 6 Shelves.great 7 Tree.root 8 ChunkShelf.shelves 9 ChunkShelf.lowest 10 Model.sizes 11 Model.times 12 Row.next 13 Walk.open.
J: 0 Piece.since 1 Shelves.now. -/
def qS : Type := List Nat × (Nat → Nat) × (Nat → Nat → Int32) × (Nat → Nat → Option Nat) × (Nat → Nat → Int64) × (Nat → Nat) × (Nat → Nat → Int32) × (Nat → Nat → Option Nat)
def qS.L (S : qS) : List Nat := S.1
def qS.K (S : qS) : Nat → Nat := S.2.1
def qS.I (S : qS) : Nat → Nat → Int32 := S.2.2.1
def qS.R (S : qS) : Nat → Nat → Option Nat := S.2.2.2.1
def qS.J (S : qS) : Nat → Nat → Int64 := S.2.2.2.2.1
def qS.N (S : qS) : Nat → Nat := S.2.2.2.2.2.1
def qS.A (S : qS) : Nat → Nat → Int32 := S.2.2.2.2.2.2.1
def qS.B (S : qS) : Nat → Nat → Option Nat := S.2.2.2.2.2.2.2
def qS.sI (S : qS) (k a : Nat) (v : Int32) : qS := (S.L, S.K, va_up S.I k (va_up (S.I k) a v), S.R, S.J, S.N, S.A, S.B)
def qS.sR (S : qS) (k a : Nat) (v : Option Nat) : qS := (S.L, S.K, S.I, va_up S.R k (va_up (S.R k) a v), S.J, S.N, S.A, S.B)
def qS.sJ (S : qS) (k a : Nat) (v : Int64) : qS := (S.L, S.K, S.I, S.R, va_up S.J k (va_up (S.J k) a v), S.N, S.A, S.B)
def qS.sA (S : qS) (a i : Nat) (v : Int32) : qS := (S.L, S.K, S.I, S.R, S.J, S.N, va_up S.A a (upd (S.A a) i v), S.B)
def qS.sB (S : qS) (a i : Nat) (v : Option Nat) : qS := (S.L, S.K, S.I, S.R, S.J, S.N, S.A, va_up S.B a (va_up (S.B a) i v))
/-- a new object of kind k at q -/
def qS.nO (S : qS) (q k : Nat) : qS := (S.L ++ [q], va_up S.K q k, fun j => va_up (S.I j) q 0, fun j => va_up (S.R j) q none, fun j => va_up (S.J j) q 0, S.N, S.A, S.B)
/-- a new int array of n places at q -/
def qS.nA (S : qS) (q n : Nat) : qS := (S.L ++ [q], va_up S.K q 6, S.I, S.R, S.J, va_up S.N q n, va_up S.A q (fun _ => 0), S.B)
/-- a new array of n references at q -/
def qS.nB (S : qS) (q n : Nat) : qS := (S.L ++ [q], va_up S.K q 7, S.I, S.R, S.J, va_up S.N q n, S.A, va_up S.B q (fun _ => none))
def q0S : qS := ([], fun _ => 0, fun _ _ => 0, fun _ _ => none, fun _ _ => 0, fun _ => 0, fun _ _ => 0, fun _ _ => none)
/-- what lies at an address -/
def qF (cI cR : ClassId) (S : qS) (a : Nat) : va_E := if S.K a = 0 then .inr (0, [.int (S.I 0 a), .int (S.I 1 a), .int (S.I 2 a), .long (S.J 0 a), va_rf (S.R 0 a), va_rf (S.R 1 a), .int (S.I 3 a)])
  else if S.K a = 1 then .inr (1, [.int (S.I 4 a), va_rf (S.R 2 a), va_rf (S.R 3 a), va_rf (S.R 4 a), .int (S.I 11 a), .int (S.I 12 a), va_rf (S.R 12 a)])
  else if S.K a = 2 then .inr (2, [va_rf (S.R 5 a), va_rf (S.R 6 a), .long (S.J 1 a)])
  else if S.K a = 3 then .inr (3, [va_rf (S.R 7 a)])
  else if S.K a = 4 then .inr (5, [va_rf (S.R 8 a), va_rf (S.R 9 a), .int (S.I 5 a), .int (S.I 6 a)])
  else if S.K a = 5 then .inr (6, [.int (S.I 7 a), .int (S.I 8 a), va_rf (S.R 10 a), va_rf (S.R 11 a), .int (S.I 9 a), .int (S.I 10 a)])
  else if S.K a = 8 then .inr (4, [va_rf (S.R 13 a), .int (S.I 13 a)])
  else if S.K a = 6 then .inl (cI, S.N a, .inl (S.A a))
  else .inl (cR, S.N a, .inr (.inr (.inr (.inr (S.B a)))))
/-! THE SURROUNDINGS of a walk: class numbers and slots; the array kinds' numbers (int, Row, long); the cells that may change; the fixed cells -/
def qE : Type := va_G × ClassId × ClassId × ClassId × (Nat → Prop) × va_W
abbrev qE.D (E : qE) : va_G := E.1
abbrev qE.cI (E : qE) : ClassId := E.2.1
abbrev qE.cR (E : qE) : ClassId := E.2.2.1
abbrev qE.cJ (E : qE) : ClassId := E.2.2.2.1
abbrev qE.A (E : qE) : Nat → Prop := E.2.2.2.2.1
abbrev qE.X (E : qE) : va_W := E.2.2.2.2.2
abbrev qE.T (E : qE) : List (ClassId × FieldType) := [(E.cI, .int), (E.cR, .object RX1), (E.cJ, .long)]
abbrev q_w (E : qE) (S : qS) : va_W := E.X ++ va_pl S.L (qF E.cI E.cR S)
/-! THE WORDS: those of the tables that stand through every call -/
def q_cd : Cond → Bool
  | .castable _ _ => true
  | .declares _ => true
  | _ => false
def q_gw (w : Cond) : Bool := w.onTables && (w.keeps || w.keepsH || q_cd w)
def q_T : List Cond := lw_tbl.filter q_gw
theorem q_in {w : Cond} (i : Nat) (h : lw_tbl[i]? = some w) (hg : q_gw w = true) : w ∈ q_T := List.mem_filter.mpr ⟨List.mem_of_getElem? h, hg⟩
theorem q_on {w : Cond} (h : w ∈ q_T) : w.onTables = true := by
  have h1 := (List.mem_filter.mp h).2
  simp only [q_gw, Bool.and_eq_true] at h1
  exact h1.1
theorem q_warm {s U : State} (hW : s.WarmedH U.vm) {w : Cond} (h : w ∈ q_T) (hb : va_Nw w s) : va_Nw w U := by
  have h1 := (List.mem_filter.mp h).2
  simp only [q_gw, Bool.and_eq_true, Bool.or_eq_true] at h1
  obtain ⟨h0, (h2 | h2) | h2⟩ := h1
  · have h3 := Cond.onTables_warm (T := U) (args' := #[]) hW h0 h2 hb
    rw [State.setVm_self] at h3
    exact h3
  · have h3 := Cond.onTables_warmH (T := U) (args' := #[]) hW h0 h2 hb
    rw [State.setVm_self] at h3
    exact h3
  · cases w with
    | castable a b => exact va_Nw.warmC hW hb
    | declares a => exact va_Nw.warmD hW hb
    | _ => cases h2
/-- the texts of the exceptions -/
def q_strs : List (Nat × String) := [(22, "n is not 16 .. 16384"), (66, "no used piece begins there"), (72, "no free piece begins there"), (88, "k is below 0"), (118, "what is not 0 .. 7"), (137, "size is not 3 .. 5000")]
def q_str (U : State) : Prop := ∀ x ∈ q_strs, ∃ a, vk_R RX5 x.1 x.2 a U
/-- what the tables say, through a whole run -/
def q_K (E : qE) (U : State) : Prop := va_K E.D vwCl E.T U ∧ (∀ w ∈ q_T, va_Nw w U) ∧ va_AO RX1 U ∧ q_str U ∧ (∀ a, (Cond.arrayClass .int).before a U = true) ∧ (∀ a, (Cond.arrayClass .long).before a U = true)
theorem q_K.warm {E : qE} {s U : State} (hW : s.WarmedH U.vm) (h : q_K E s) : q_K E U :=
  ⟨h.1.moved hW.alike, fun w hw => q_warm hW hw (h.2.1 w hw), h.2.2.1.moved hW.alike, fun x hx => by
    obtain ⟨a, ha⟩ := h.2.2.2.1 x hx
    exact ⟨a, vk_R.warm hW ha⟩, fun a => word_at hW (Or.inr ⟨_, rfl⟩) (h.2.2.2.2.1 #[]), fun a => word_at hW (Or.inr ⟨_, rfl⟩) (h.2.2.2.2.2 #[])⟩
theorem q_K.blind {E : qE} {U : State} (g : JFrame) (mk : MethodId) (a : Array Value) (h : q_K E U) : q_K E (U.calling g mk a) :=
  ⟨va_K.moved (u := U) (U := U.calling g mk a) (Vm.Alike.refl U.vm) h.1, fun w hw => va_Nw.same (u := U) (q_on hw) rfl (h.2.1 w hw), va_AO.moved (u := U) (U := U.calling g mk a) (Vm.Alike.refl U.vm) h.2.2.1, fun x hx => by
    obtain ⟨b, hb⟩ := h.2.2.2.1 x hx
    exact ⟨b, vk_R.same (u := U) rfl hb⟩, fun b => h.2.2.2.2.1 b, fun b => h.2.2.2.2.2 b⟩
def q_Z (E : qE) (U : State) (H : Heap) : Prop := vx_Zq Bundle.tN "UNASSIGNED_STACK" Bundle.steD E.A U H ∧ vx_Zq Bundle.tN "SUPPRESSED_SENTINEL" Bundle.listD E.A U H
/-- the world at a method's entry, and behind it -/
def q_I (E : qE) (S : qS) (U : State) : Prop := q_K E U ∧ q_Z E U U.heap ∧ va_P E.D vwCl (q_w E S) U.heap ∧ va_D E.A (q_w E S) ∧ ∀ q, U.heap.size ≤ q → E.A q
def q_B (E : qE) (S : qS) (t : State) : Prop := va_P E.D vwCl (q_w E S) t.heap ∧ va_D E.A (q_w E S)
/-- the world inside a method that was entered at s -/
def q_V (E : qE) (s : State) (S : qS) (H : Heap) (locs : List Loc) : Prop := q_K E s ∧ q_Z E s s.heap ∧ va_P E.D vwCl (q_w E S) H ∧ va_D E.A (q_w E S) ∧ va_S E.A s.heap H locs ∧ ∀ q, s.heap.size ≤ q → E.A q
theorem q_I.blind {E : qE} {S : qS} {U : State} (g : JFrame) (mk : MethodId) (a : Array Value) (h : q_I E S U) : q_I E S (U.calling g mk a) :=
  ⟨h.1.blind g mk a, ⟨vx_Zq.moved (u := U) (U := U.calling g mk a) (Vm.Alike.refl U.vm) h.2.1.1, vx_Zq.moved (u := U) (U := U.calling g mk a) (Vm.Alike.refl U.vm) h.2.1.2⟩, h.2.2⟩
theorem q_V.pre {E : qE} {s : State} {S : qS} {H : Heap} {locs : List Loc} (h : q_V E s S H locs) {U : State} (hU : U.heap = H) (hW : s.WarmedH U.vm) : q_I E S U := by
  obtain ⟨h1, ⟨z1, z2⟩, h3, h4, h5, h6⟩ := h
  subst hU
  have hk : ∀ a : Nat, a < s.heap.size → ¬ E.A a → U.heap[a]? = s.heap[a]? := fun a l1 l2 => h5.2.1 a l1 l2
  exact ⟨h1.warm hW, ⟨(z1.kept hk).moved hW.alike, (z2.kept hk).moved hW.alike⟩, h3, h4, fun q hq => h6 q (Nat.le_trans h5.1 hq)⟩
/-! contracts: one word, its code; all else stands in the world -/
abbrev q_Mi (l : Launch) (y : MethodName) (cc : ByteArray) (n : Nat) (rt : FieldType) (rm : Room) (E : qE) (av : List Value) (S : qS) (post : Int32 → qS → Prop) (mc ms : Nat) : Prop := Met l y [.code y cc n (some rt)] rm (va_Pc av (q_I E S)) (va_Qi post (q_B E) E.A) mc ms E.A
abbrev q_Mv (l : Launch) (y : MethodName) (cc : ByteArray) (n : Nat) (rm : Room) (E : qE) (av : List Value) (S : qS) (post : qS → Prop) (mc ms : Nat) : Prop := Met l y [.code y cc n none] rm (va_Pc av (q_I E S)) (va_Qv post (q_B E) E.A) mc ms E.A
abbrev q_Mq (l : Launch) (y : MethodName) (cc : ByteArray) (n : Nat) (rt : FieldType) (rm : Room) (E : qE) (av : List Value) (S : qS) (post : Option Nat → qS → Prop) (mc ms : Nat) : Prop := Met l y [.code y cc n (some rt)] rm (va_Pc av (q_I E S)) (va_Qq post (q_B E) E.A) mc ms E.A
/-- from a contract to the walk of its body -/
theorem q_ofW {l : Launch} {y : MethodName} {cc : ByteArray} {n mc ms : Nat} {ret : Option FieldType} {rm : Room} {E : qE} {av : List Value} {S : qS} {Qc : Array Value → State → Outcome → State → Prop} (hy : plainName y.cls = true) (hn : (lg_sl av).length ≤ n)
    (body : ∀ (p : Program) (e : Env) (s : State) (m : MethodId) (below : List Frame) (meth : Method) (c : Code), CallFix p m c cc n s av.toArray q_T y.cls → q_V E s S s.heap [] → meth.sig.returnType = ret → meth.locks = false → meth.name = y.name → ∀ ls : Array Slot, lv_has ls n (lv_args 0 av) →
      W p l e rm s m av.toArray below meth c s.heap [] 0 0 (MQ below Qc av.toArray s mc ms E.A) (F0 m 0 ls [])) : Met l y [.code y cc n ret] rm (va_Pc av (q_I E S)) Qc mc ms E.A := by
  refine Met.ofW (cc := cc) (maxL := n) (ret := ret) (ws' := []) hy rfl ?_
  intro p e s m args below meth c s₁ B hml hv
  obtain ⟨rfl, hK, hZ, hP, hD, hA⟩ := hv
  rw [lg_entry_eq]
  exact body p e s m below meth c ⟨B.exec, B.bytes, hml, findClass_of_methodNamed B.named, fun w hw => va_Nw.use (q_on hw) (hK.2.1 w hw)⟩ ⟨hK, hZ, hP, hD, va_S.rf, hA⟩ B.returns B.notSynchronized (name_of_methodNamed B.named B.method).1 _ (lv_entry av hn)
