section
-- ===== PART A: goes FIRST, ahead of the names: the tables' words, and 'selects' of the private methods out of them =====
/-- a private method of a class that the tables say can be made, by its rows of tables_1 -/
def lw_okq (q : MethodName × Nat) : Prop := (q.1.cls ≠ "java/lang/invoke/MethodHandle" ∧ q.1.cls ≠ "java/lang/invoke/VarHandle") ∧ Cond.instantiable q.1.cls q.2 ∈ tables_1 ∧ Cond.privateMethod q.1 ∈ tables_1 ∧ Cond.instanceMethod q.1 ∈ tables_1
theorem lw_p0 : lw_okq (⟨"ChunkShelf", "startWith", "(I)V"⟩, 4) := ⟨⟨by decide +kernel, by decide +kernel⟩, List.mem_of_getElem? (i := 14) (by decide +kernel), List.mem_of_getElem? (i := 72) (by decide +kernel), List.mem_of_getElem? (i := 73) (by decide +kernel)⟩
theorem lw_p1 : lw_okq (⟨"ChunkShelf$Shelves", "clear", "()V"⟩, 3) := ⟨⟨by decide +kernel, by decide +kernel⟩, List.mem_of_getElem? (i := 22) (by decide +kernel), List.mem_of_getElem? (i := 76) (by decide +kernel), List.mem_of_getElem? (i := 77) (by decide +kernel)⟩
theorem lw_p2 : lw_okq (⟨"ChunkShelf$Shelves", "putIn", "(LChunkShelf$Piece;)V"⟩, 3) := ⟨⟨by decide +kernel, by decide +kernel⟩, List.mem_of_getElem? (i := 22) (by decide +kernel), List.mem_of_getElem? (i := 116) (by decide +kernel), List.mem_of_getElem? (i := 117) (by decide +kernel)⟩
theorem lw_p3 : lw_okq (⟨"ChunkShelf$Tree", "rowMadeFor", "(I)LChunkShelf$Row;"⟩, 1) := ⟨⟨by decide +kernel, by decide +kernel⟩, List.mem_of_getElem? (i := 51) (by decide +kernel), List.mem_of_getElem? (i := 120) (by decide +kernel), List.mem_of_getElem? (i := 121) (by decide +kernel)⟩
theorem lw_p4 : lw_okq (⟨"ChunkShelf$Tree", "rowOf", "(I)LChunkShelf$Row;"⟩, 1) := ⟨⟨by decide +kernel, by decide +kernel⟩, List.mem_of_getElem? (i := 51) (by decide +kernel), List.mem_of_getElem? (i := 124) (by decide +kernel), List.mem_of_getElem? (i := 125) (by decide +kernel)⟩
theorem lw_p5 : lw_okq (⟨"ChunkShelf$Tree", "parentFor", "(I)LChunkShelf$Row;"⟩, 1) := ⟨⟨by decide +kernel, by decide +kernel⟩, List.mem_of_getElem? (i := 51) (by decide +kernel), List.mem_of_getElem? (i := 130) (by decide +kernel), List.mem_of_getElem? (i := 131) (by decide +kernel)⟩
theorem lw_p6 : lw_okq (⟨"ChunkShelf$Tree", "hang", "(LChunkShelf$Row;ILChunkShelf$Row;)V"⟩, 1) := ⟨⟨by decide +kernel, by decide +kernel⟩, List.mem_of_getElem? (i := 51) (by decide +kernel), List.mem_of_getElem? (i := 134) (by decide +kernel), List.mem_of_getElem? (i := 135) (by decide +kernel)⟩
theorem lw_p7 : lw_okq (⟨"ChunkShelf$Row", "push", "(LChunkShelf$Piece;)V"⟩, 4) := ⟨⟨by decide +kernel, by decide +kernel⟩, List.mem_of_getElem? (i := 29) (by decide +kernel), List.mem_of_getElem? (i := 138) (by decide +kernel), List.mem_of_getElem? (i := 139) (by decide +kernel)⟩
theorem lw_p8 : lw_okq (⟨"ChunkShelf", "swallowFreeBehind", "(LChunkShelf$Piece;)I"⟩, 4) := ⟨⟨by decide +kernel, by decide +kernel⟩, List.mem_of_getElem? (i := 14) (by decide +kernel), List.mem_of_getElem? (i := 159) (by decide +kernel), List.mem_of_getElem? (i := 160) (by decide +kernel)⟩
theorem lw_p9 : lw_okq (⟨"ChunkShelf$Shelves", "pullOut", "(LChunkShelf$Piece;)V"⟩, 3) := ⟨⟨by decide +kernel, by decide +kernel⟩, List.mem_of_getElem? (i := 22) (by decide +kernel), List.mem_of_getElem? (i := 163) (by decide +kernel), List.mem_of_getElem? (i := 164) (by decide +kernel)⟩
theorem lw_p10 : lw_okq (⟨"ChunkShelf$Shelves", "rowOf", "(I)LChunkShelf$Row;"⟩, 3) := ⟨⟨by decide +kernel, by decide +kernel⟩, List.mem_of_getElem? (i := 22) (by decide +kernel), List.mem_of_getElem? (i := 167) (by decide +kernel), List.mem_of_getElem? (i := 168) (by decide +kernel)⟩
theorem lw_p11 : lw_okq (⟨"ChunkShelf$Row", "drop", "(LChunkShelf$Piece;)V"⟩, 4) := ⟨⟨by decide +kernel, by decide +kernel⟩, List.mem_of_getElem? (i := 29) (by decide +kernel), List.mem_of_getElem? (i := 172) (by decide +kernel), List.mem_of_getElem? (i := 173) (by decide +kernel)⟩
theorem lw_p12 : lw_okq (⟨"ChunkShelf$Tree", "remove", "(LChunkShelf$Row;)V"⟩, 1) := ⟨⟨by decide +kernel, by decide +kernel⟩, List.mem_of_getElem? (i := 51) (by decide +kernel), List.mem_of_getElem? (i := 176) (by decide +kernel), List.mem_of_getElem? (i := 177) (by decide +kernel)⟩
theorem lw_p13 : lw_okq (⟨"ChunkShelf", "beginningAt", "(I)LChunkShelf$Piece;"⟩, 4) := ⟨⟨by decide +kernel, by decide +kernel⟩, List.mem_of_getElem? (i := 14) (by decide +kernel), List.mem_of_getElem? (i := 187) (by decide +kernel), List.mem_of_getElem? (i := 188) (by decide +kernel)⟩
theorem lw_p14 : lw_okq (⟨"ChunkShelf", "holding", "(I)LChunkShelf$Piece;"⟩, 4) := ⟨⟨by decide +kernel, by decide +kernel⟩, List.mem_of_getElem? (i := 14) (by decide +kernel), List.mem_of_getElem? (i := 191) (by decide +kernel), List.mem_of_getElem? (i := 192) (by decide +kernel)⟩
theorem lw_p15 : lw_okq (⟨"ChunkShelf$Piece", "isShelved", "()Z"⟩, 7) := ⟨⟨by decide +kernel, by decide +kernel⟩, List.mem_of_getElem? (i := 80) (by decide +kernel), List.mem_of_getElem? (i := 203) (by decide +kernel), List.mem_of_getElem? (i := 204) (by decide +kernel)⟩
def lw_privs_1 : List (MethodName × Nat) := [(⟨"ChunkShelf", "startWith", "(I)V"⟩, 4), (⟨"ChunkShelf$Shelves", "clear", "()V"⟩, 3), (⟨"ChunkShelf$Shelves", "putIn", "(LChunkShelf$Piece;)V"⟩, 3), (⟨"ChunkShelf$Tree", "rowMadeFor", "(I)LChunkShelf$Row;"⟩, 1), (⟨"ChunkShelf$Tree", "rowOf", "(I)LChunkShelf$Row;"⟩, 1), (⟨"ChunkShelf$Tree", "parentFor", "(I)LChunkShelf$Row;"⟩, 1), (⟨"ChunkShelf$Tree", "hang", "(LChunkShelf$Row;ILChunkShelf$Row;)V"⟩, 1), (⟨"ChunkShelf$Row", "push", "(LChunkShelf$Piece;)V"⟩, 4), (⟨"ChunkShelf", "swallowFreeBehind", "(LChunkShelf$Piece;)I"⟩, 4), (⟨"ChunkShelf$Shelves", "pullOut", "(LChunkShelf$Piece;)V"⟩, 3), (⟨"ChunkShelf$Shelves", "rowOf", "(I)LChunkShelf$Row;"⟩, 3), (⟨"ChunkShelf$Row", "drop", "(LChunkShelf$Piece;)V"⟩, 4), (⟨"ChunkShelf$Tree", "remove", "(LChunkShelf$Row;)V"⟩, 1), (⟨"ChunkShelf", "beginningAt", "(I)LChunkShelf$Piece;"⟩, 4), (⟨"ChunkShelf", "holding", "(I)LChunkShelf$Piece;"⟩, 4), (⟨"ChunkShelf$Piece", "isShelved", "()Z"⟩, 7)]
theorem lw_r1 : ∀ q ∈ lw_privs_1, lw_okq q := List.forall_mem_cons.mpr ⟨lw_p0, List.forall_mem_cons.mpr ⟨lw_p1, List.forall_mem_cons.mpr ⟨lw_p2, List.forall_mem_cons.mpr ⟨lw_p3, List.forall_mem_cons.mpr ⟨lw_p4, List.forall_mem_cons.mpr ⟨lw_p5, List.forall_mem_cons.mpr ⟨lw_p6, List.forall_mem_cons.mpr ⟨lw_p7, List.forall_mem_cons.mpr ⟨lw_p8, List.forall_mem_cons.mpr ⟨lw_p9, List.forall_mem_cons.mpr ⟨lw_p10, List.forall_mem_cons.mpr ⟨lw_p11, List.forall_mem_cons.mpr ⟨lw_p12, List.forall_mem_cons.mpr ⟨lw_p13, List.forall_mem_cons.mpr ⟨lw_p14, List.forall_mem_cons.mpr ⟨lw_p15, fun _ h => absurd h List.not_mem_nil⟩⟩⟩⟩⟩⟩⟩⟩⟩⟩⟩⟩⟩⟩⟩⟩
theorem lw_p16 : lw_okq (⟨"ChunkShelf$Shelves", "wrongThings", "(II)I"⟩, 3) := ⟨⟨by decide +kernel, by decide +kernel⟩, List.mem_of_getElem? (i := 22) (by decide +kernel), List.mem_of_getElem? (i := 207) (by decide +kernel), List.mem_of_getElem? (i := 208) (by decide +kernel)⟩
theorem lw_p17 : lw_okq (⟨"ChunkShelf$Tree", "leastFrom", "(I)LChunkShelf$Row;"⟩, 1) := ⟨⟨by decide +kernel, by decide +kernel⟩, List.mem_of_getElem? (i := 51) (by decide +kernel), List.mem_of_getElem? (i := 217) (by decide +kernel), List.mem_of_getElem? (i := 218) (by decide +kernel)⟩
theorem lw_p18 : lw_okq (⟨"java/lang/Throwable", "fillInStackTrace", "(I)Ljava/lang/Throwable;"⟩, 6) := ⟨⟨by decide +kernel, by decide +kernel⟩, List.mem_of_getElem? (i := 266) (by decide +kernel), List.mem_of_getElem? (i := 264) (by decide +kernel), List.mem_of_getElem? (i := 265) (by decide +kernel)⟩
theorem lw_p19 : lw_okq (⟨"ChunkShelf$Shelves", "smallestFrom", "(I)LChunkShelf$Piece;"⟩, 3) := ⟨⟨by decide +kernel, by decide +kernel⟩, List.mem_of_getElem? (i := 22) (by decide +kernel), List.mem_of_getElem? (i := 307) (by decide +kernel), List.mem_of_getElem? (i := 308) (by decide +kernel)⟩
theorem lw_p20 : lw_okq (⟨"ChunkShelf", "cut", "(LChunkShelf$Piece;I)V"⟩, 4) := ⟨⟨by decide +kernel, by decide +kernel⟩, List.mem_of_getElem? (i := 14) (by decide +kernel), List.mem_of_getElem? (i := 314) (by decide +kernel), List.mem_of_getElem? (i := 315) (by decide +kernel)⟩
theorem lw_p21 : lw_okq (⟨"ChunkShelf$Row", "kthLatest", "(I)LChunkShelf$Piece;"⟩, 4) := ⟨⟨by decide +kernel, by decide +kernel⟩, List.mem_of_getElem? (i := 29) (by decide +kernel), List.mem_of_getElem? (i := 366) (by decide +kernel), List.mem_of_getElem? (i := 367) (by decide +kernel)⟩
theorem lw_p22 : lw_okq (⟨"ChunkShelf", "freeCells", "()I"⟩, 4) := ⟨⟨by decide +kernel, by decide +kernel⟩, List.mem_of_getElem? (i := 14) (by decide +kernel), List.mem_of_getElem? (i := 377) (by decide +kernel), List.mem_of_getElem? (i := 378) (by decide +kernel)⟩
theorem lw_p23 : lw_okq (⟨"ChunkShelf", "crumbCells", "()I"⟩, 4) := ⟨⟨by decide +kernel, by decide +kernel⟩, List.mem_of_getElem? (i := 14) (by decide +kernel), List.mem_of_getElem? (i := 381) (by decide +kernel), List.mem_of_getElem? (i := 382) (by decide +kernel)⟩
theorem lw_p24 : lw_okq (⟨"ChunkShelf$Piece", "isCrumb", "()Z"⟩, 7) := ⟨⟨by decide +kernel, by decide +kernel⟩, List.mem_of_getElem? (i := 80) (by decide +kernel), List.mem_of_getElem? (i := 385) (by decide +kernel), List.mem_of_getElem? (i := 386) (by decide +kernel)⟩
theorem lw_p25 : lw_okq (⟨"ChunkShelf", "usedPieces", "()I"⟩, 4) := ⟨⟨by decide +kernel, by decide +kernel⟩, List.mem_of_getElem? (i := 14) (by decide +kernel), List.mem_of_getElem? (i := 389) (by decide +kernel), List.mem_of_getElem? (i := 390) (by decide +kernel)⟩
theorem lw_p26 : lw_okq (⟨"ChunkShelf", "shelvedPieces", "()I"⟩, 4) := ⟨⟨by decide +kernel, by decide +kernel⟩, List.mem_of_getElem? (i := 14) (by decide +kernel), List.mem_of_getElem? (i := 393) (by decide +kernel), List.mem_of_getElem? (i := 394) (by decide +kernel)⟩
theorem lw_p27 : lw_okq (⟨"ChunkShelf", "crumbs", "()I"⟩, 4) := ⟨⟨by decide +kernel, by decide +kernel⟩, List.mem_of_getElem? (i := 14) (by decide +kernel), List.mem_of_getElem? (i := 397) (by decide +kernel), List.mem_of_getElem? (i := 398) (by decide +kernel)⟩
theorem lw_p28 : lw_okq (⟨"ChunkShelf", "greatestFree", "()I"⟩, 4) := ⟨⟨by decide +kernel, by decide +kernel⟩, List.mem_of_getElem? (i := 14) (by decide +kernel), List.mem_of_getElem? (i := 401) (by decide +kernel), List.mem_of_getElem? (i := 402) (by decide +kernel)⟩
theorem lw_p29 : lw_okq (⟨"ChunkShelfModel", "goes", "(Z)Z"⟩, 6) := ⟨⟨by decide +kernel, by decide +kernel⟩, List.mem_of_getElem? (i := 406) (by decide +kernel), List.mem_of_getElem? (i := 440) (by decide +kernel), List.mem_of_getElem? (i := 441) (by decide +kernel)⟩
theorem lw_p30 : lw_okq (⟨"ChunkShelfModel", "release", "(II)V"⟩, 6) := ⟨⟨by decide +kernel, by decide +kernel⟩, List.mem_of_getElem? (i := 406) (by decide +kernel), List.mem_of_getElem? (i := 444) (by decide +kernel), List.mem_of_getElem? (i := 445) (by decide +kernel)⟩
theorem lw_p31 : lw_okq (⟨"ChunkShelfModel", "best", "(I)I"⟩, 6) := ⟨⟨by decide +kernel, by decide +kernel⟩, List.mem_of_getElem? (i := 406) (by decide +kernel), List.mem_of_getElem? (i := 455) (by decide +kernel), List.mem_of_getElem? (i := 456) (by decide +kernel)⟩
def lw_privs_2 : List (MethodName × Nat) := [(⟨"ChunkShelf$Shelves", "wrongThings", "(II)I"⟩, 3), (⟨"ChunkShelf$Tree", "leastFrom", "(I)LChunkShelf$Row;"⟩, 1), (⟨"java/lang/Throwable", "fillInStackTrace", "(I)Ljava/lang/Throwable;"⟩, 6), (⟨"ChunkShelf$Shelves", "smallestFrom", "(I)LChunkShelf$Piece;"⟩, 3), (⟨"ChunkShelf", "cut", "(LChunkShelf$Piece;I)V"⟩, 4), (⟨"ChunkShelf$Row", "kthLatest", "(I)LChunkShelf$Piece;"⟩, 4), (⟨"ChunkShelf", "freeCells", "()I"⟩, 4), (⟨"ChunkShelf", "crumbCells", "()I"⟩, 4), (⟨"ChunkShelf$Piece", "isCrumb", "()Z"⟩, 7), (⟨"ChunkShelf", "usedPieces", "()I"⟩, 4), (⟨"ChunkShelf", "shelvedPieces", "()I"⟩, 4), (⟨"ChunkShelf", "crumbs", "()I"⟩, 4), (⟨"ChunkShelf", "greatestFree", "()I"⟩, 4), (⟨"ChunkShelfModel", "goes", "(Z)Z"⟩, 6), (⟨"ChunkShelfModel", "release", "(II)V"⟩, 6), (⟨"ChunkShelfModel", "best", "(I)I"⟩, 6)]
theorem lw_r2 : ∀ q ∈ lw_privs_2, lw_okq q := List.forall_mem_cons.mpr ⟨lw_p16, List.forall_mem_cons.mpr ⟨lw_p17, List.forall_mem_cons.mpr ⟨lw_p18, List.forall_mem_cons.mpr ⟨lw_p19, List.forall_mem_cons.mpr ⟨lw_p20, List.forall_mem_cons.mpr ⟨lw_p21, List.forall_mem_cons.mpr ⟨lw_p22, List.forall_mem_cons.mpr ⟨lw_p23, List.forall_mem_cons.mpr ⟨lw_p24, List.forall_mem_cons.mpr ⟨lw_p25, List.forall_mem_cons.mpr ⟨lw_p26, List.forall_mem_cons.mpr ⟨lw_p27, List.forall_mem_cons.mpr ⟨lw_p28, List.forall_mem_cons.mpr ⟨lw_p29, List.forall_mem_cons.mpr ⟨lw_p30, List.forall_mem_cons.mpr ⟨lw_p31, fun _ h => absurd h List.not_mem_nil⟩⟩⟩⟩⟩⟩⟩⟩⟩⟩⟩⟩⟩⟩⟩⟩
theorem lw_p32 : lw_okq (⟨"ChunkShelfModel", "length", "(I)I"⟩, 6) := ⟨⟨by decide +kernel, by decide +kernel⟩, List.mem_of_getElem? (i := 406) (by decide +kernel), List.mem_of_getElem? (i := 459) (by decide +kernel), List.mem_of_getElem? (i := 460) (by decide +kernel)⟩
theorem lw_p33 : lw_okq (⟨"ChunkShelfModel", "known", "(I)Z"⟩, 6) := ⟨⟨by decide +kernel, by decide +kernel⟩, List.mem_of_getElem? (i := 406) (by decide +kernel), List.mem_of_getElem? (i := 467) (by decide +kernel), List.mem_of_getElem? (i := 468) (by decide +kernel)⟩
theorem lw_p34 : lw_okq (⟨"ChunkShelfModel", "joined", "(I)I"⟩, 6) := ⟨⟨by decide +kernel, by decide +kernel⟩, List.mem_of_getElem? (i := 406) (by decide +kernel), List.mem_of_getElem? (i := 475) (by decide +kernel), List.mem_of_getElem? (i := 476) (by decide +kernel)⟩
theorem lw_p35 : lw_okq (⟨"ChunkShelfModel", "greatest", "()I"⟩, 6) := ⟨⟨by decide +kernel, by decide +kernel⟩, List.mem_of_getElem? (i := 406) (by decide +kernel), List.mem_of_getElem? (i := 503) (by decide +kernel), List.mem_of_getElem? (i := 504) (by decide +kernel)⟩
def lw_privs_3 : List (MethodName × Nat) := [(⟨"ChunkShelfModel", "length", "(I)I"⟩, 6), (⟨"ChunkShelfModel", "known", "(I)Z"⟩, 6), (⟨"ChunkShelfModel", "joined", "(I)I"⟩, 6), (⟨"ChunkShelfModel", "greatest", "()I"⟩, 6)]
theorem lw_r3 : ∀ q ∈ lw_privs_3, lw_okq q := List.forall_mem_cons.mpr ⟨lw_p32, List.forall_mem_cons.mpr ⟨lw_p33, List.forall_mem_cons.mpr ⟨lw_p34, List.forall_mem_cons.mpr ⟨lw_p35, fun _ h => absurd h List.not_mem_nil⟩⟩⟩⟩
def lw_privs : List (MethodName × Nat) := lw_privs_1 ++ (lw_privs_2 ++ (lw_privs_3))
def lw_tbl : List Cond := k2_sels lw_privs ++ tables_1
theorem lw_privs_ok : ∀ q ∈ lw_privs, lw_okq q := by
  show ∀ q ∈ lw_privs_1 ++ (lw_privs_2 ++ (lw_privs_3)), lw_okq q
  exact List.forall_mem_append.mpr ⟨lw_r1, List.forall_mem_append.mpr ⟨lw_r2, lw_r3⟩⟩
end
section
/-! ===== BEGIN words of one list among another's, by their places ===== -/
theorem goodIn_r {big : List Cond} (ws : List Cond) (ps : List Nat) (hp : ws = ps.filterMap (fun i => big[i]?)) (h : ws.all goodWord = true) : GoodIn big ws := by
  intro w hw
  have h1 := List.all_eq_true.mp h w hw
  rw [hp] at hw
  obtain ⟨i, -, hi⟩ := List.mem_filterMap.mp hw
  have hm : w ∈ big := by first | exact List.mem_of_getElem? hi | exact List.getElem?_mem hi
  exact ⟨hm, good_of_word h1⟩
theorem goodIn_app {big a b : List Cond} (ha : GoodIn big a) (hb : GoodIn big b) : GoodIn big (a ++ b) := fun w h => (List.mem_append.mp h).elim (ha w) (hb w)
theorem goodIn_ca {big a b : List Cond} {c : Cond} (ha : GoodIn big (c :: a)) (hb : GoodIn big b) : GoodIn big (c :: (a ++ b)) := fun w h => (List.mem_cons.mp h).elim (fun e => ha w (List.mem_cons.mpr (Or.inl e))) (fun h => (List.mem_append.mp h).elim (fun h => ha w (List.mem_cons.mpr (Or.inr h))) (hb w))
theorem goodIn_sub {big ws : List Cond} (hm : ∀ w ∈ ws, w ∈ big) (h : ws.all goodWord = true) : GoodIn big ws := fun w hw => ⟨hm w hw, good_of_word (List.all_eq_true.mp h w hw)⟩
/-! ===== END ===== -/

/-! ===== BEGIN exceptions that leave a method, and their catching by the caller (launches without stack traces) ===== -/
section VXA
/-! The laws vx_back, vx_callV, vx_callS, vx_callSW, vx_throw0, vx_throwS follow proofs of the library, with one case more: JvmDerived/Free/Laws.lean (Back.of_free), Shelf42/LK1.lean (callV, callS), Shelf/KitTraced.lean (throwNew0V, throwNewS). -/
/-- where a method has thrown q: the class by its name, the cell, what was written, the world -/
def vx_T (XC : String → State → State → Prop) (st : State) (q : Addr) (t : State) (mc ms : Nat) (free : Addr → Prop) : Prop :=
  ∃ (E : String) (ce : Cell) (L : List Loc), XC E st t ∧ t.heap[q]? = some ce ∧ ce.vm = .none ∧ st.vm.findClass E = some ce.cls ∧ st.WarmedH t.vm ∧ st.sameButNew ({ t with vm := st.vm } : State) L mc ms ∧ ∀ z ∈ L, free z.base
def vx_Q (Qc : Array Value → State → Outcome → State → Prop) (XC : String → State → State → Prop) (mc ms : Nat) (free : Addr → Prop) : Array Value → State → Outcome → State → Prop := fun a st o t =>
  (Qc a st o t ∧ ∃ L, FrameEnd st o t L mc ms ∧ ∀ q ∈ L, free q.base) ∨ ∃ q, o = .threw q ∧ vx_T XC st q t mc ms free
/-- a callee that returns or throws -/
def vx_Met (l : Launch) (y : MethodName) (ws : List Cond) (rm : Room) (Pc : Array Value → State → Prop) (Qc : Array Value → State → Outcome → State → Prop) (XC : String → State → State → Prop) (mc ms : Nat) (free : Addr → Prop) : Prop :=
  MetFree l y (headSpec ws rm) Pc (fun _ _ _ _ _ => True) (vx_Q Qc XC mc ms free)
def vx_Post (XC : String → State → State → Prop) (mc ms : Nat) (free : Addr → Prop) : Pt → Array Value → Addr → Pt → Prop := fun A a q B =>
  ∃ (g : JFrame) (mk : MethodId) (t : State) (L : List Loc) (E : String) (ce : Cell), B.U.heap = t.heap ∧ B.U.vm = t.vm ∧ XC E (A.U.calling g mk a) t ∧ t.heap[q]? = some ce ∧ ce.vm = .none ∧ A.U.vm.findClass E = some ce.cls ∧ B.locs = A.locs ++ L ∧ (∀ z ∈ L, free z.base) ∧ B.cells = A.cells + mc ∧ B.slots = A.slots + ms
def vx_Back (l : Launch) (R : Room) (p : Program) (e : Env) (below : List Frame) (s : State) (sargs : Array Value) (y : MethodName) (len W9 : Nat)
    (Pre : Pt → Array Value → Prop) (Post : Pt → Array Value → Option Value → Pt → Prop) (PostX : Pt → Array Value → Addr → Pt → Prop) : Prop :=
  ∀ (m : MethodId) (meth : Method) (c : Code) (A : Pt) (g : JFrame) (ig : Instr) (mk : MethodId) (a : Array Value),
    Stand p l e R s m sargs below meth c A.U A.locs A.cells A.slots → g.method = m → g.locals.size = c.maxLocals → decode c.code g.pc = .ok (ig, len) →
    2 * g.monitorRoom + (g.stack.map fun v => v.category).sum ≤ W9 → A.U.methodNamed? y = some mk → Pre A a →
    (∃ (v : Option Value) (B : Pt), Stand p l e R s m sargs below meth c B.U B.locs B.cells B.slots ∧ Post A a v B ∧
      Steps p.tables e below (doInvoke e (A.U.setTop g) [] mk a).1 (B.U.setTop { g with pc := g.pc + len, stack := v.toList ++ g.stack })) ∨
    (∃ (q : Addr) (B : Pt), Stand p l e R s m sargs below meth c B.U B.locs B.cells B.slots ∧ PostX A a q B ∧
      Steps p.tables e below (doInvoke e (A.U.setTop g) [] mk a).1 ((B.U.setTop g).pushFrame (.throwing q)))
section Payer
variable {l : Launch} {R : Room} {p : Program} {e : Env} {below : List Frame} {s : State} {sargs : Array Value} {y : MethodName} {len W9 : Nat}
theorem vx_back {ws : List Cond} {rm : Room} {Pc : Array Value → State → Prop} {Qc : Array Value → State → Outcome → State → Prop} {XC : String → State → State → Prop} {mc ms : Nat} {free : Addr → Prop} {bytes : ByteArray} {maxL : Nat} {ret : Option FieldType}
    (hM : vx_Met l y ws rm Pc Qc XC mc ms free) (hblind : FrameBlind Pc) (hrc : rm.cells = mc) (hrs : rm.slots = ms)
    (hframes : rm.frames + 1 ≤ R.frames) (hlocals : W9 + (maxL + 11) + rm.locals ≤ R.locals)
    (hws : ∀ w ∈ ws, ∀ a' U, s.WarmedH U.vm → w.before a' U = true) (hcode : Cond.code y bytes maxL ret ∈ ws) (hinit : ∀ a' U, s.WarmedH U.vm → (Cond.initialized y.cls).before a' U = true) :
    vx_Back l R p e below s sargs y len W9 (PreOf R mc ms Pc) (PostOf Qc mc ms free) (vx_Post XC mc ms free) := by
  intro m meth c A g ig mk a X hg hsize hdg hW hn hp
  have h1 : (headSpec ws rm).pre.before a A.U = true := atoms_intro fun w hw => hws w hw _ _ X.warmed
  have h2 : (Cond.code y bytes maxL ret).before a A.U = true := hws _ hcode _ _ X.warmed
  have h3 : (Cond.initialized y.cls).before a A.U = true := hinit _ _ X.warmed
  have h4 : A.cells + (headSpec ws rm).room.cells ≤ R.cells := by rw [show (headSpec ws rm).room.cells = mc from hrc]; exact hp.1
  have h5 : A.slots + (headSpec ws rm).room.slots ≤ R.slots := by rw [show (headSpec ws rm).room.slots = ms from hrs]; exact hp.2.1
  have hPc : Pc a (A.U.calling g mk a) := hblind _ _ _ _ hp.2.2
  obtain ⟨U, Ls, c0, s0⟩ := A
  dsimp only [Pt.U, Pt.locs, Pt.cells, Pt.slots] at h1 h2 h3 h4 h5 X hn hPc ⊢
  obtain ⟨methY, cY, hmY, hcY, -, hlY, -, -, -, -⟩ := Cond.code_spec hn h2
  obtain ⟨kY, hkY, -⟩ := className_of_methodNamed hn
  have hinitY : kY.init = .initialized := Cond.initialized_spec (findClass_of_methodNamed hn) hkY h3
  have h : At U g.method c below := by rw [hg]; exact X.here
  have hlocals9 : W9 + (maxL + 11) + (headSpec ws rm).room.locals ≤ R.locals := hlocals
  have happ : (headSpec ws rm).appliesLoose y e.platform (U.calling g mk a) = true :=
    Spec.appliesLoose_calling (g := g) h hdg hn hkY hinitY
      (X.room_calling (g := g) (R' := (headSpec ws rm).room) hsize hmY hcY hframes (by rw [hlY]; omega) h4 h5) h1
  obtain ⟨mid, hmid⟩ := h.above
  have hfr : (U.setTop g).frames = (.java g :: mid) ++ below := by rw [State.frames_setTop' g h.top, hmid]; rfl
  obtain ⟨o, s₂, hsteps, -, hend, hq⟩ := Steps.callFree hM p X.admits X.cas X.clock (acts := []) hfr happ hPc trivial
  have hq' : vx_Q Qc XC mc ms free a (U.calling g mk a) o s₂ := hq
  rw [State.frames_setTop' g h.top] at hend
  obtain ⟨g₀, hg0⟩ := Option.isSome_iff_exists.mp h.top
  obtain ⟨r, hr⟩ := State.topJava?_eq_some.mp hg0
  have hr' : (({ U with heap := s₂.heap, slotsUsed := s₂.slotsUsed } : State).setVm s₂.vm).frames = .java g₀ :: r := hr
  rcases hq' with ⟨hqc, L, hfe, hL⟩ | ⟨q, rfl, E, ce, L, hx, hce, hcv, hcl, hW₂, hsm, hL⟩
  · obtain ⟨⟨v, rfl⟩, hW₂, e2, q2, q3, q4, q5, q6⟩ := id hfe
    have e3 : s₂ = ({ (U.calling g mk a).setFrames s₂.frames with heap := s₂.heap, slotsUsed := s₂.slotsUsed } : State).setVm s₂.vm := by
      have : s₂ = ({ s₂ with vm := (U.calling g mk a).vm } : State).setVm s₂.vm := rfl
      rw [e2] at this
      exact this
    obtain ⟨c₂, i₂, len₂, hc₂, hd₂, hf₂⟩ := hend
    have hW' : U.WarmedH s₂.vm := hW₂
    have hcc : c₂ = c := by
      have h1 : s₂.code? g.method = U.code? g.method := by
        rw [State.code?_eq, State.code?_eq, hW'.alike.method?]
      exact Option.some.inj (hc₂.symm.trans (h1.trans h.code))
    subst hcc
    have hlen : len₂ = len := by rw [hdg] at hd₂; cases hd₂; rfl
    subst hlen
    have hs₂ : s₂ = (({ U with heap := s₂.heap, slotsUsed := s₂.slotsUsed } : State).setVm s₂.vm).setTop { g with pc := g.pc + len₂, stack := v.toList ++ g.stack } := by
      refine e3.trans ?_
      rw [hf₂, State.calling_eq h.top, State.setFrames_setFrames, State.setTop_of_frames _ hr', hr]
      rfl
    have hsame : U.sameButNew ({ U with heap := s₂.heap, slotsUsed := s₂.slotsUsed } : State) L mc ms := by
      refine ⟨?_, q2, q3, q4, q5, q6⟩
      obtain ⟨t, ht, -⟩ := State.frames_cons hr
      show ({ U with heap := s₂.heap, slotsUsed := s₂.slotsUsed } : State) = { U.setFrames U.frames with heap := s₂.heap, slotsUsed := s₂.slotsUsed }
      rw [State.setFrames_self ht]
    subst hg
    refine Or.inl ⟨v, ⟨(({ U with heap := s₂.heap, slotsUsed := s₂.slotsUsed } : State).setVm s₂.vm), Ls ++ L, c0 + mc, s0 + ms⟩,
      ⟨X.admits, X.cas, X.clock, X.frames, X.room, X.hears, X.method, X.code, (X.here.setHeapUsed s₂.heap s₂.slotsUsed).setVm hW'.alike, X.tail, State.WarmedH.trans X.warmed hW', X.limits, X.bytes, X.same.trans (hsame.setVm s.vm)⟩,
      ⟨g, mk, s₂, L, rfl, rfl, hqc, rfl, hL, rfl, rfl⟩, ?_⟩
    show Steps p.tables e below _ ((({ U with heap := s₂.heap, slotsUsed := s₂.slotsUsed } : State).setVm s₂.vm).setTop { g with pc := g.pc + len₂, stack := v.toList ++ g.stack })
    rw [← hs₂]
    exact hsteps
  · obtain ⟨e2, q2, q3, q4, q5, q6⟩ := id hsm
    have e3 : s₂ = ({ (U.calling g mk a).setFrames s₂.frames with heap := s₂.heap, slotsUsed := s₂.slotsUsed } : State).setVm s₂.vm := by
      have : s₂ = ({ s₂ with vm := (U.calling g mk a).vm } : State).setVm s₂.vm := rfl
      rw [e2] at this
      exact this
    have hf₂ : s₂.frames = .throwing q :: .java g :: U.frames.tail := hend
    have hW' : U.WarmedH s₂.vm := hW₂
    have hs₂ : s₂ = ((({ U with heap := s₂.heap, slotsUsed := s₂.slotsUsed } : State).setVm s₂.vm).setTop g).pushFrame (.throwing q) := by
      refine e3.trans ?_
      rw [hf₂, State.calling_eq h.top, State.setFrames_setFrames, State.pushFrame, State.frames_setTop _ hr', State.setTop_of_frames _ hr', State.setFrames_setFrames, hr]
      rfl
    have hsame : U.sameButNew ({ U with heap := s₂.heap, slotsUsed := s₂.slotsUsed } : State) L mc ms := by
      refine ⟨?_, q2, q3, q4, q5, q6⟩
      obtain ⟨t, ht, -⟩ := State.frames_cons hr
      show ({ U with heap := s₂.heap, slotsUsed := s₂.slotsUsed } : State) = { U.setFrames U.frames with heap := s₂.heap, slotsUsed := s₂.slotsUsed }
      rw [State.setFrames_self ht]
    subst hg
    refine Or.inr ⟨q, ⟨(({ U with heap := s₂.heap, slotsUsed := s₂.slotsUsed } : State).setVm s₂.vm), Ls ++ L, c0 + mc, s0 + ms⟩,
      ⟨X.admits, X.cas, X.clock, X.frames, X.room, X.hears, X.method, X.code, (X.here.setHeapUsed s₂.heap s₂.slotsUsed).setVm hW'.alike, X.tail, State.WarmedH.trans X.warmed hW', X.limits, X.bytes, X.same.trans (hsame.setVm s.vm)⟩,
      ⟨g, mk, s₂, L, E, ce, rfl, rfl, hx, hce, hcv, hcl, rfl, hL, rfl, rfl⟩, ?_⟩
    show Steps p.tables e below _ (((({ U with heap := s₂.heap, slotsUsed := s₂.slotsUsed } : State).setVm s₂.vm).setTop g).pushFrame (.throwing q))
    rw [← hs₂]
    exact hsteps
end Payer
section Calls
variable {p : Program} {l : Launch} {e : Env} {R : Room} {s : State} {m : MethodId} {args : Array Value} {below : List Frame} {meth : Method} {c : Code} {T : State} {locs : List Loc} {cells slots : Nat}
theorem vx_callV (X : Stand p l e R s m args below meth c T locs cells slots) (hexec : p.tables.exec = Jvm.exec) {own C : String} {index : Nat} {y : MethodName} {bytes : ByteArray} {maxL : Nat} {ret : Option FieldType}
    (hown : s.vm.findClass own = some m.cls) (hlink : (Cond.methodLink own index y).before args s = true) (hinst : (Cond.instanceMethod y).before args s = true) (hsel : (Cond.selects C y y).before args s = true)
    (hcode : (Cond.code y bytes maxL ret).before args s = true) (hy : y.cls ≠ "java/lang/invoke/MethodHandle" ∧ y.cls ≠ "java/lang/invoke/VarHandle")
    {W9 : Nat} {Pre : Pt → Array Value → Prop} {Post : Pt → Array Value → Option Value → Pt → Prop} {PostX : Pt → Array Value → Addr → Pt → Prop} (hK : vx_Back l R p e below s args y 3 W9 Pre Post PostX)
    {b : Addr} {cellB : Cell} (hcell : T.heap[b]? = some cellB) (hobj : cellB.vm.isStatics = false) (hcls : s.vm.findClass C = some cellB.cls)
    {g : JFrame} (hg : g.method = m) (hsize : g.locals.size = c.maxLocals) {argsL rest : List Value} (hlen : ∀ sig, parseMethodDescriptor y.desc = some sig → argsL.length = sig.parameters.length)
    (hstack : g.stack = argsL.reverse ++ .ref b :: rest) (hW : 2 * g.monitorRoom + (rest.map fun v => v.category).sum ≤ W9) (hdg : decode c.code g.pc = .ok (.invokevirtual index, 3))
    (hpre : ∀ vm₁, s.WarmedH vm₁ → Pre ⟨T.setVm vm₁, locs, cells, slots⟩ (Value.ref b :: argsL).toArray) :
    (∃ (v : Option Value) (vm₁ : Vm) (B : Pt), s.WarmedH vm₁ ∧ Stand p l e R s m args below meth c B.U B.locs B.cells B.slots ∧ Post ⟨T.setVm vm₁, locs, cells, slots⟩ (Value.ref b :: argsL).toArray v B ∧
      ∀ target, Steps p.tables e below (B.U.setTop { g with pc := g.pc + 3, stack := v.toList ++ rest }) target → Steps p.tables e below (T.setTop g) target) ∨
    (∃ (q : Addr) (vm₁ : Vm) (B : Pt), s.WarmedH vm₁ ∧ Stand p l e R s m args below meth c B.U B.locs B.cells B.slots ∧ PostX ⟨T.setVm vm₁, locs, cells, slots⟩ (Value.ref b :: argsL).toArray q B ∧
      Steps p.tables e below (T.setTop g) ((B.U.setTop { g with stack := rest }).pushFrame (.throwing q))) := by
  obtain ⟨mk, methM, hnamed, hmethM, hstM, habM⟩ := Cond.instanceMethod_spec hinst
  obtain ⟨methM', cM, hmethM', -, -, -, -, -, -, hsigM⟩ := Cond.code_spec hnamed hcode
  cases hmethM.symm.trans hmethM'
  obtain ⟨c2, r2, m2, q1, q2, q3, q4, kP, hkP, hkPi⟩ := Cond.selects_spec hsel
  cases hcls.symm.trans q1
  cases (State.methodFound?_of_named hnamed hy).symm.trans q2
  cases hnamed.symm.trans q3
  have hselP : selectMethod e.platform s.vm cellB.cls mk = .method mk := by rw [Launch.admits_selectMethod X.admits]; exact q4
  obtain ⟨vm₁, X₁, hstep₁⟩ := X.invokevirtual hexec hown hlink hnamed hmethM hstM hkP hkPi hy (a := b) (cell := cellB) hcell
    (fun z h => by rw [h] at hobj; cases hobj) hselP hmethM habM hkP hkPi (g := g) hg (argsL := argsL) (rest := rest) (hlen _ hsigM) hstack hdg
  rcases hK m meth c ⟨T.setVm vm₁, locs, cells, slots⟩ { g with stack := rest } (.invokevirtual index) mk (Value.ref b :: argsL).toArray X₁ hg hsize hdg hW (X₁.named hnamed) (hpre vm₁ X₁.warmed) with ⟨v, B, X', hpost, hsteps⟩ | ⟨q, B, X', hpost, hsteps⟩
  · exact Or.inl ⟨v, vm₁, B, X₁.warmed, X', hpost, fun target h => hstep₁ _ fun acts => by rw [doInvoke_state]; exact hsteps.trans h⟩
  · exact Or.inr ⟨q, vm₁, B, X₁.warmed, X', hpost, hstep₁ _ fun acts => by rw [doInvoke_state]; exact hsteps⟩
theorem vx_callS (X : Stand p l e R s m args below meth c T locs cells slots) (hexec : p.tables.exec = Jvm.exec) {own : String} {index : Nat} {y : MethodName} {bytes : ByteArray} {maxL : Nat} {ret : Option FieldType}
    (hown : s.vm.findClass own = some m.cls) (hlink : (Cond.methodLink own index y).before args s = true) (hstat : (Cond.static y).before args s = true) (hinit : (Cond.initialized y.cls).before args s = true)
    (hcode : (Cond.code y bytes maxL ret).before args s = true) (hy : y.cls ≠ "java/lang/invoke/MethodHandle" ∧ y.cls ≠ "java/lang/invoke/VarHandle")
    {W9 : Nat} {Pre : Pt → Array Value → Prop} {Post : Pt → Array Value → Option Value → Pt → Prop} {PostX : Pt → Array Value → Addr → Pt → Prop} (hK : vx_Back l R p e below s args y 3 W9 Pre Post PostX)
    {g : JFrame} (hg : g.method = m) (hsize : g.locals.size = c.maxLocals) {argsL rest : List Value} (hlen : ∀ sig, parseMethodDescriptor y.desc = some sig → argsL.length = sig.parameters.length)
    (hstack : g.stack = argsL.reverse ++ rest) (hW : 2 * g.monitorRoom + (rest.map fun v => v.category).sum ≤ W9) (hdg : decode c.code g.pc = .ok (.invokestatic index, 3))
    (hpre : ∀ vm₁, s.WarmedH vm₁ → Pre ⟨T.setVm vm₁, locs, cells, slots⟩ argsL.toArray) :
    (∃ (v : Option Value) (vm₁ : Vm) (B : Pt), s.WarmedH vm₁ ∧ Stand p l e R s m args below meth c B.U B.locs B.cells B.slots ∧ Post ⟨T.setVm vm₁, locs, cells, slots⟩ argsL.toArray v B ∧
      ∀ target, Steps p.tables e below (B.U.setTop { g with pc := g.pc + 3, stack := v.toList ++ rest }) target → Steps p.tables e below (T.setTop g) target) ∨
    (∃ (q : Addr) (vm₁ : Vm) (B : Pt), s.WarmedH vm₁ ∧ Stand p l e R s m args below meth c B.U B.locs B.cells B.slots ∧ PostX ⟨T.setVm vm₁, locs, cells, slots⟩ argsL.toArray q B ∧
      Steps p.tables e below (T.setTop g) ((B.U.setTop { g with stack := rest }).pushFrame (.throwing q))) := by
  obtain ⟨mk, hnamed⟩ := Cond.code_named hcode
  obtain ⟨methM, cM, hmethM, -, -, -, -, -, -, hsigM⟩ := Cond.code_spec hnamed hcode
  have hstatic : methM.isStatic = true := Cond.static_spec hnamed hmethM hstat
  obtain ⟨kP, hkP, -⟩ := className_of_methodNamed hnamed
  have hinitP : kP.init = .initialized := Cond.initialized_spec (findClass_of_methodNamed hnamed) hkP hinit
  obtain ⟨vm₁, X₁, hstep₁⟩ := X.invokestatic hexec hown hlink hnamed hmethM hstatic hkP hinitP hy (g := g) hg (argsL := argsL) (rest := rest) (hlen _ hsigM) hstack hdg
  rcases hK m meth c ⟨T.setVm vm₁, locs, cells, slots⟩ { g with stack := rest } (.invokestatic index) mk argsL.toArray X₁ hg hsize hdg hW (X₁.named hnamed) (hpre vm₁ X₁.warmed) with ⟨v, B, X', hpost, hsteps⟩ | ⟨q, B, X', hpost, hsteps⟩
  · exact Or.inl ⟨v, vm₁, B, X₁.warmed, X', hpost, fun target h => hstep₁ _ fun acts => by rw [doInvoke_state]; exact hsteps.trans h⟩
  · exact Or.inr ⟨q, vm₁, B, X₁.warmed, X', hpost, hstep₁ _ fun acts => by rw [doInvoke_state]; exact hsteps⟩
end Calls
theorem vx_cls {s : State} {T : State} {vm₁ : Vm} {E : String} {k : ClassId} (hW : s.WarmedH vm₁) (h : (T.setVm vm₁).vm.findClass E = some k) : s.vm.findClass E = some k := by
  have h1 : vm₁.findClass E = some k := h
  rw [hW.alike.findClass] at h1
  exact h1
/-- the method's frame g, with q thrown over it -/
def vx_W (p : Program) (l : Launch) (e : Env) (R : Room) (s : State) (m : MethodId) (args : Array Value) (below : List Frame) (meth : Method) (c : Code) (H : Heap) (locs : List Loc) (cells slots : Nat) (Q : State → Prop) (g : JFrame) (q : Addr) : Prop :=
  ∀ T : State, T.heap = H → Stand p l e R s m args below meth c T locs cells slots → ∃ t, Steps p.tables e below ((T.setTop g).pushFrame (.throwing q)) t ∧ Q t
def vx_Run (p : Program) (l : Launch) (e : Env) (R : Room) (s : State) (m : MethodId) (args : Array Value) (below : List Frame) (meth : Method) (c : Code) (H : Heap) (locs : List Loc) (cells slots mc ms : Nat) (g : JFrame) (rest : List Value) (Qa : State → Outcome → State → Prop) (XC : String → State → State → Prop) (free : Addr → Prop) : Prop :=
  ∀ T : State, T.heap = H → Stand p l e R s m args below meth c T locs cells slots →
    (∃ (v : Option Value) (st₀ t T' : State) (L : List Loc), st₀.heap = H ∧ Stand p l e R s m args below meth c T' (locs ++ L) (cells + mc) (slots + ms) ∧ (∀ q ∈ L, free q.base) ∧ T'.heap = t.heap ∧ T'.vm = t.vm ∧ Qa st₀ (.returned v) t ∧
      Goes p e below T g T' { g with pc := g.pc + 3, stack := v.toList ++ rest }) ∨
    (∃ (q : Addr) (st₀ t T' : State) (L : List Loc) (E : String) (ce : Cell), st₀.heap = H ∧ Stand p l e R s m args below meth c T' (locs ++ L) (cells + mc) (slots + ms) ∧ (∀ z ∈ L, free z.base) ∧ T'.heap = t.heap ∧ T'.vm = t.vm ∧ XC E st₀ t ∧ t.heap[q]? = some ce ∧ ce.vm = .none ∧ s.vm.findClass E = some ce.cls ∧
      Steps p.tables e below (T.setTop g) ((T'.setTop { g with stack := rest }).pushFrame (.throwing q)))
def vx_X {S : Type} (px : S → Prop) (B : String → S → State → Prop) (A : Nat → Prop) : String → State → State → Prop := fun E st t => ∃ u : S, px u ∧ B E u t ∧ va_F A st t
section Runs
variable {p : Program} {l : Launch} {e : Env} {R : Room} {s : State} {m : MethodId} {args : Array Value} {below : List Frame} {meth : Method} {c : Code} {H : Heap} {locs : List Loc} {cells slots : Nat}
variable {y : MethodName} {bytes cc : ByteArray} {maxL nL mc ms n index : Nat} {ret : Option FieldType} {ws : List Cond} {rm : Room} {Pc : Array Value → State → Prop} {Qc : Array Value → State → Outcome → State → Prop} {XC : String → State → State → Prop} {free : Addr → Prop} {Ts : List Cond} {own C : String} {b : Addr} {As rest : List Value} {g : JFrame}
theorem vx_callBack (cb : CallB R s args own index y bytes maxL ret ws rm mc ms n) (hM : vx_Met l y ws rm Pc Qc XC mc ms free) (hbl : FrameBlind Pc) : vx_Back l R p e below s args y 3 8 (PreOf R mc ms Pc) (PostOf Qc mc ms free) (vx_Post XC mc ms free) := by
  obtain ⟨hrc, hrs, hfr, hlo, hws, hcw, -, hini, -⟩ := cb
  exact vx_back (bytes := bytes) (maxL := maxL) (ret := ret) hM hbl hrc hrs hfr hlo hws hcw (fun a' U hW => word_at hW (Or.inl (by first | rfl | simp [Cond.onTables, Cond.keeps, Cond.steady])) hini)
theorem vx_runV (S : CallFix p m c cc nL s args Ts own) (hM : vx_Met l y ws rm Pc Qc XC mc ms free) (cw : CallW R s args own C index y bytes maxL ret ws rm mc ms n) (hp : PreV s H C b Pc As)
    (hg : g.method = m) (hn : As.length = n) (hsize : g.locals.size = nL) (hstack : g.stack = As.reverse ++ .ref b :: rest) (hW : 2 * g.monitorRoom + (rest.map fun v => v.category).sum ≤ 8) (hdg : decode cc g.pc = .ok (.invokevirtual index, 3)) (hf : cells + mc ≤ R.cells ∧ slots + ms ≤ R.slots) :
    vx_Run p l e R s m args below meth c H locs cells slots mc ms g rest (Qc (Value.ref b :: As).toArray) XC free := by
  have hK : vx_Back l R p e below s args y 3 8 (PreOf R mc ms Pc) (PostOf Qc mc ms free) (vx_Post XC mc ms free) := vx_callBack cw.1 hM hp.1
  obtain ⟨⟨-, -, -, -, -, -, hcode, -, hy, hlen, hl⟩, hin, hse⟩ := cw
  obtain ⟨hx, hb, hml, ho, -⟩ := S
  obtain ⟨-, ⟨cellB, hcB, hoB, hclB⟩, hPc⟩ := hp
  intro T hT X
  rcases vx_callV X hx (C := C) (bytes := bytes) (maxL := maxL) (ret := ret) ho hl hin hse hcode hy hK (by rw [hT]; exact hcB) hoB hclB hg (hsize.trans hml.symm) (argsL := As) (rest := rest) (fun sig h => hn.trans (hlen sig h)) hstack hW (by rw [hb]; exact hdg)
    (fun vm₁ hW₁ => ⟨hf.1, hf.2, hPc (T.setVm vm₁) hT hW₁⟩) with ⟨v, vm₁, ⟨U', l2, c2, s2⟩, hW₁, X', ⟨g', mk, t, L, e1, e2, hq, h1, hL, h2, h3⟩, st⟩ | ⟨q, vm₁, ⟨U', l2, c2, s2⟩, hW₁, X', ⟨g', mk, t, L, E, ce, e1, e2, hq, hce, hcv, hcl, h1, hL, h2, h3⟩, st⟩
  · dsimp only [Pt.U, Pt.locs, Pt.cells, Pt.slots] at X' e1 e2 h1 h2 h3 st
    subst h1; subst h2; subst h3
    exact Or.inl ⟨v, (T.setVm vm₁).calling g' mk (Value.ref b :: As).toArray, t, U', L, hT, X', hL, e1, e2, hq, st⟩
  · dsimp only [Pt.U, Pt.locs, Pt.cells, Pt.slots] at X' e1 e2 h1 h2 h3 st hcl
    subst h1; subst h2; subst h3
    exact Or.inr ⟨q, (T.setVm vm₁).calling g' mk (Value.ref b :: As).toArray, t, U', L, E, ce, hT, X', hL, e1, e2, hq, hce, hcv, vx_cls hW₁ hcl, st⟩
theorem vx_runS (S : CallFix p m c cc nL s args Ts own) (hM : vx_Met l y ws rm Pc Qc XC mc ms free) (cw : CallB R s args own index y bytes maxL ret ws rm mc ms n ∧ (Cond.static y).before args s = true) (hp : PreS s H Pc As)
    (hg : g.method = m) (hn : As.length = n) (hsize : g.locals.size = nL) (hstack : g.stack = As.reverse ++ rest) (hW : 2 * g.monitorRoom + (rest.map fun v => v.category).sum ≤ 8) (hdg : decode cc g.pc = .ok (.invokestatic index, 3)) (hf : cells + mc ≤ R.cells ∧ slots + ms ≤ R.slots) :
    vx_Run p l e R s m args below meth c H locs cells slots mc ms g rest (Qc As.toArray) XC free := by
  have hK : vx_Back l R p e below s args y 3 8 (PreOf R mc ms Pc) (PostOf Qc mc ms free) (vx_Post XC mc ms free) := vx_callBack cw.1 hM hp.1
  obtain ⟨⟨-, -, -, -, -, -, hcode, hini, hy, hlen, hl⟩, hstt⟩ := cw
  obtain ⟨hx, hb, hml, ho, -⟩ := S
  intro T hT X
  rcases vx_callS X hx (bytes := bytes) (maxL := maxL) (ret := ret) ho hl hstt hini hcode hy hK hg (hsize.trans hml.symm) (argsL := As) (rest := rest) (fun sig h => hn.trans (hlen sig h)) hstack hW (by rw [hb]; exact hdg)
    (fun vm₁ hW₁ => ⟨hf.1, hf.2, hp.2 (T.setVm vm₁) hT hW₁⟩) with ⟨v, vm₁, ⟨U', l2, c2, s2⟩, hW₁, X', ⟨g', mk, t, L, e1, e2, hq, h1, hL, h2, h3⟩, st⟩ | ⟨q, vm₁, ⟨U', l2, c2, s2⟩, hW₁, X', ⟨g', mk, t, L, E, ce, e1, e2, hq, hce, hcv, hcl, h1, hL, h2, h3⟩, st⟩
  · dsimp only [Pt.U, Pt.locs, Pt.cells, Pt.slots] at X' e1 e2 h1 h2 h3 st
    subst h1; subst h2; subst h3
    exact Or.inl ⟨v, (T.setVm vm₁).calling g' mk As.toArray, t, U', L, hT, X', hL, e1, e2, hq, st⟩
  · dsimp only [Pt.U, Pt.locs, Pt.cells, Pt.slots] at X' e1 e2 h1 h2 h3 st hcl
    subst h1; subst h2; subst h3
    exact Or.inr ⟨q, (T.setVm vm₁).calling g' mk As.toArray, t, U', L, E, ce, hT, X', hL, e1, e2, hq, hce, hcv, vx_cls hW₁ hcl, st⟩
end Runs
section Rows
variable {p : Program} {l : Launch} {e : Env} {R : Room} {s : State} {m : MethodId} {args : Array Value} {below : List Frame} {meth : Method} {c : Code} {H : Heap} {locs : List Loc} {cells slots : Nat} {Q : State → Prop}
variable {mc ms : Nat} {free : Addr → Prop} {A0 A1 : Nat → Prop} {H0 : Heap} {a : Array Value} {pc : Nat} {ls : Array Slot} {st0 rest : List Value}
theorem vx_keep {st₀ t T' : State} {L : List Loc} (h0 : st₀.heap = H) (e1 : T'.heap = t.heap) (hS : va_S A0 H0 H locs) (hA : ∀ q, q < H.size → A1 q → A0 q) (hf : ∀ q, free q → A0 q) (hL : ∀ q ∈ L, free q.base) (hF : va_F A1 st₀ t) :
    H.size ≤ T'.heap.size ∧ (∀ q : Nat, q < H.size → ¬ A1 q → T'.heap[q]? = H[q]?) ∧ va_S A0 H0 T'.heap (locs ++ L) := by
  obtain ⟨hz, hk⟩ := hF
  rw [h0] at hz hk
  exact ⟨by rw [e1]; exact hz, fun q h1 h2 => by rw [e1]; exact hk q h1 h2,
    ⟨Nat.le_trans hS.1 (by rw [e1]; exact hz), fun q h1 h2 => by rw [e1, hk q (Nat.lt_of_lt_of_le h1 hS.1) (fun z => h2 (hA q (Nat.lt_of_lt_of_le h1 hS.1) z))]; exact hS.2.1 q h1 h2, fun q hq => by
      rcases List.mem_append.mp hq with h | h
      · exact hS.2.2 q h
      · exact hf _ (hL q h)⟩⟩
theorem vx_calli {S SX : Type} {post : Int32 → S → Prop} {px : SX → Prop} {B : S → State → Prop} {BX : String → SX → State → Prop} {AX : Nat → Prop} (hr : vx_Run p l e R s m args below meth c H locs cells slots mc ms (F0 m pc ls st0) rest (va_Qi post B A1 a) (vx_X px BX AX) free) (hS : va_S A0 H0 H locs) (hA : ∀ q, q < H.size → A1 q → A0 q) (hf : ∀ q, free q → A0 q) (hAX : ∀ q, q < H.size → AX q → A0 q)
    (kx : ∀ (E : String) (ce : Cell) (q9 : Addr) (u : SX) (t : State) (H1 : Heap) (locs1 : List Loc), t.heap = H1 → s.vm.Alike t.vm → px u → BX E u t → H.size ≤ H1.size → (∀ q : Nat, q < H.size → ¬ AX q → H1[q]? = H[q]?) → va_S A0 H0 H1 locs1 → H1[q9]? = some ce → ce.vm = .none → s.vm.findClass E = some ce.cls → vx_W p l e R s m args below meth c H1 locs1 (cells + mc) (slots + ms) Q (F0 m pc ls rest) q9)
    (kk : ∀ (r : Int32) (u : S) (t : State) (H1 : Heap) (locs1 : List Loc), t.heap = H1 → s.vm.Alike t.vm → post r u → B u t → H.size ≤ H1.size → (∀ q : Nat, q < H.size → ¬ A1 q → H1[q]? = H[q]?) → va_S A0 H0 H1 locs1 → W p l e R s m args below meth c H1 locs1 (cells + mc) (slots + ms) Q (F0 m (pc + 3) ls (.int r :: rest))) : W p l e R s m args below meth c H locs cells slots Q (F0 m pc ls st0) := by
  intro T hT X
  rcases hr T hT X with ⟨v, st₀, t, T', L, h0, X', hL, e1, e2, ⟨⟨r, u, hv, hp, hb⟩, hF⟩, st⟩ | ⟨q, st₀, t, T', L, E, ce, h0, X', hL, e1, e2, ⟨u, hp, hb, hF⟩, hce, hcv, hcl, st⟩
  · cases hv
    obtain ⟨k1, k2, k3⟩ := vx_keep h0 e1 hS hA hf hL hF
    obtain ⟨t2, a1, b1⟩ := kk r u t T'.heap (locs ++ L) e1.symm (by rw [← e2]; exact X'.warmed.alike) hp hb k1 k2 k3 T' rfl X'
    exact ⟨t2, st t2 a1, b1⟩
  · obtain ⟨k1, k2, k3⟩ := vx_keep h0 e1 hS hAX hf hL hF
    obtain ⟨t2, a1, b1⟩ := kx E ce q u t T'.heap (locs ++ L) e1.symm (by rw [← e2]; exact X'.warmed.alike) hp hb k1 k2 k3 (by rw [e1]; exact hce) hcv hcl T' rfl X'
    exact ⟨t2, st.trans a1, b1⟩
theorem vx_calll {S SX : Type} {post : Int64 → S → Prop} {px : SX → Prop} {B : S → State → Prop} {BX : String → SX → State → Prop} {AX : Nat → Prop} (hr : vx_Run p l e R s m args below meth c H locs cells slots mc ms (F0 m pc ls st0) rest (va_Ql post B A1 a) (vx_X px BX AX) free) (hS : va_S A0 H0 H locs) (hA : ∀ q, q < H.size → A1 q → A0 q) (hf : ∀ q, free q → A0 q) (hAX : ∀ q, q < H.size → AX q → A0 q)
    (kx : ∀ (E : String) (ce : Cell) (q9 : Addr) (u : SX) (t : State) (H1 : Heap) (locs1 : List Loc), t.heap = H1 → s.vm.Alike t.vm → px u → BX E u t → H.size ≤ H1.size → (∀ q : Nat, q < H.size → ¬ AX q → H1[q]? = H[q]?) → va_S A0 H0 H1 locs1 → H1[q9]? = some ce → ce.vm = .none → s.vm.findClass E = some ce.cls → vx_W p l e R s m args below meth c H1 locs1 (cells + mc) (slots + ms) Q (F0 m pc ls rest) q9)
    (kk : ∀ (r : Int64) (u : S) (t : State) (H1 : Heap) (locs1 : List Loc), t.heap = H1 → s.vm.Alike t.vm → post r u → B u t → H.size ≤ H1.size → (∀ q : Nat, q < H.size → ¬ A1 q → H1[q]? = H[q]?) → va_S A0 H0 H1 locs1 → W p l e R s m args below meth c H1 locs1 (cells + mc) (slots + ms) Q (F0 m (pc + 3) ls (.long r :: rest))) : W p l e R s m args below meth c H locs cells slots Q (F0 m pc ls st0) := by
  intro T hT X
  rcases hr T hT X with ⟨v, st₀, t, T', L, h0, X', hL, e1, e2, ⟨⟨r, u, hv, hp, hb⟩, hF⟩, st⟩ | ⟨q, st₀, t, T', L, E, ce, h0, X', hL, e1, e2, ⟨u, hp, hb, hF⟩, hce, hcv, hcl, st⟩
  · cases hv
    obtain ⟨k1, k2, k3⟩ := vx_keep h0 e1 hS hA hf hL hF
    obtain ⟨t2, a1, b1⟩ := kk r u t T'.heap (locs ++ L) e1.symm (by rw [← e2]; exact X'.warmed.alike) hp hb k1 k2 k3 T' rfl X'
    exact ⟨t2, st t2 a1, b1⟩
  · obtain ⟨k1, k2, k3⟩ := vx_keep h0 e1 hS hAX hf hL hF
    obtain ⟨t2, a1, b1⟩ := kx E ce q u t T'.heap (locs ++ L) e1.symm (by rw [← e2]; exact X'.warmed.alike) hp hb k1 k2 k3 (by rw [e1]; exact hce) hcv hcl T' rfl X'
    exact ⟨t2, st.trans a1, b1⟩
theorem vx_callf {S SX : Type} {post : UInt32 → S → Prop} {px : SX → Prop} {B : S → State → Prop} {BX : String → SX → State → Prop} {AX : Nat → Prop} (hr : vx_Run p l e R s m args below meth c H locs cells slots mc ms (F0 m pc ls st0) rest (va_Qf post B A1 a) (vx_X px BX AX) free) (hS : va_S A0 H0 H locs) (hA : ∀ q, q < H.size → A1 q → A0 q) (hf : ∀ q, free q → A0 q) (hAX : ∀ q, q < H.size → AX q → A0 q)
    (kx : ∀ (E : String) (ce : Cell) (q9 : Addr) (u : SX) (t : State) (H1 : Heap) (locs1 : List Loc), t.heap = H1 → s.vm.Alike t.vm → px u → BX E u t → H.size ≤ H1.size → (∀ q : Nat, q < H.size → ¬ AX q → H1[q]? = H[q]?) → va_S A0 H0 H1 locs1 → H1[q9]? = some ce → ce.vm = .none → s.vm.findClass E = some ce.cls → vx_W p l e R s m args below meth c H1 locs1 (cells + mc) (slots + ms) Q (F0 m pc ls rest) q9)
    (kk : ∀ (r : UInt32) (u : S) (t : State) (H1 : Heap) (locs1 : List Loc), t.heap = H1 → s.vm.Alike t.vm → post r u → B u t → H.size ≤ H1.size → (∀ q : Nat, q < H.size → ¬ A1 q → H1[q]? = H[q]?) → va_S A0 H0 H1 locs1 → W p l e R s m args below meth c H1 locs1 (cells + mc) (slots + ms) Q (F0 m (pc + 3) ls (.float r :: rest))) : W p l e R s m args below meth c H locs cells slots Q (F0 m pc ls st0) := by
  intro T hT X
  rcases hr T hT X with ⟨v, st₀, t, T', L, h0, X', hL, e1, e2, ⟨⟨r, u, hv, hp, hb⟩, hF⟩, st⟩ | ⟨q, st₀, t, T', L, E, ce, h0, X', hL, e1, e2, ⟨u, hp, hb, hF⟩, hce, hcv, hcl, st⟩
  · cases hv
    obtain ⟨k1, k2, k3⟩ := vx_keep h0 e1 hS hA hf hL hF
    obtain ⟨t2, a1, b1⟩ := kk r u t T'.heap (locs ++ L) e1.symm (by rw [← e2]; exact X'.warmed.alike) hp hb k1 k2 k3 T' rfl X'
    exact ⟨t2, st t2 a1, b1⟩
  · obtain ⟨k1, k2, k3⟩ := vx_keep h0 e1 hS hAX hf hL hF
    obtain ⟨t2, a1, b1⟩ := kx E ce q u t T'.heap (locs ++ L) e1.symm (by rw [← e2]; exact X'.warmed.alike) hp hb k1 k2 k3 (by rw [e1]; exact hce) hcv hcl T' rfl X'
    exact ⟨t2, st.trans a1, b1⟩
theorem vx_calld {S SX : Type} {post : UInt64 → S → Prop} {px : SX → Prop} {B : S → State → Prop} {BX : String → SX → State → Prop} {AX : Nat → Prop} (hr : vx_Run p l e R s m args below meth c H locs cells slots mc ms (F0 m pc ls st0) rest (va_Qd post B A1 a) (vx_X px BX AX) free) (hS : va_S A0 H0 H locs) (hA : ∀ q, q < H.size → A1 q → A0 q) (hf : ∀ q, free q → A0 q) (hAX : ∀ q, q < H.size → AX q → A0 q)
    (kx : ∀ (E : String) (ce : Cell) (q9 : Addr) (u : SX) (t : State) (H1 : Heap) (locs1 : List Loc), t.heap = H1 → s.vm.Alike t.vm → px u → BX E u t → H.size ≤ H1.size → (∀ q : Nat, q < H.size → ¬ AX q → H1[q]? = H[q]?) → va_S A0 H0 H1 locs1 → H1[q9]? = some ce → ce.vm = .none → s.vm.findClass E = some ce.cls → vx_W p l e R s m args below meth c H1 locs1 (cells + mc) (slots + ms) Q (F0 m pc ls rest) q9)
    (kk : ∀ (r : UInt64) (u : S) (t : State) (H1 : Heap) (locs1 : List Loc), t.heap = H1 → s.vm.Alike t.vm → post r u → B u t → H.size ≤ H1.size → (∀ q : Nat, q < H.size → ¬ A1 q → H1[q]? = H[q]?) → va_S A0 H0 H1 locs1 → W p l e R s m args below meth c H1 locs1 (cells + mc) (slots + ms) Q (F0 m (pc + 3) ls (.double r :: rest))) : W p l e R s m args below meth c H locs cells slots Q (F0 m pc ls st0) := by
  intro T hT X
  rcases hr T hT X with ⟨v, st₀, t, T', L, h0, X', hL, e1, e2, ⟨⟨r, u, hv, hp, hb⟩, hF⟩, st⟩ | ⟨q, st₀, t, T', L, E, ce, h0, X', hL, e1, e2, ⟨u, hp, hb, hF⟩, hce, hcv, hcl, st⟩
  · cases hv
    obtain ⟨k1, k2, k3⟩ := vx_keep h0 e1 hS hA hf hL hF
    obtain ⟨t2, a1, b1⟩ := kk r u t T'.heap (locs ++ L) e1.symm (by rw [← e2]; exact X'.warmed.alike) hp hb k1 k2 k3 T' rfl X'
    exact ⟨t2, st t2 a1, b1⟩
  · obtain ⟨k1, k2, k3⟩ := vx_keep h0 e1 hS hAX hf hL hF
    obtain ⟨t2, a1, b1⟩ := kx E ce q u t T'.heap (locs ++ L) e1.symm (by rw [← e2]; exact X'.warmed.alike) hp hb k1 k2 k3 (by rw [e1]; exact hce) hcv hcl T' rfl X'
    exact ⟨t2, st.trans a1, b1⟩
theorem vx_callv {S SX : Type} {post : S → Prop} {px : SX → Prop} {B : S → State → Prop} {BX : String → SX → State → Prop} {AX : Nat → Prop} (hr : vx_Run p l e R s m args below meth c H locs cells slots mc ms (F0 m pc ls st0) rest (va_Qv post B A1 a) (vx_X px BX AX) free) (hS : va_S A0 H0 H locs) (hA : ∀ q, q < H.size → A1 q → A0 q) (hf : ∀ q, free q → A0 q) (hAX : ∀ q, q < H.size → AX q → A0 q)
    (kx : ∀ (E : String) (ce : Cell) (q9 : Addr) (u : SX) (t : State) (H1 : Heap) (locs1 : List Loc), t.heap = H1 → s.vm.Alike t.vm → px u → BX E u t → H.size ≤ H1.size → (∀ q : Nat, q < H.size → ¬ AX q → H1[q]? = H[q]?) → va_S A0 H0 H1 locs1 → H1[q9]? = some ce → ce.vm = .none → s.vm.findClass E = some ce.cls → vx_W p l e R s m args below meth c H1 locs1 (cells + mc) (slots + ms) Q (F0 m pc ls rest) q9)
    (kk : ∀ (u : S) (t : State) (H1 : Heap) (locs1 : List Loc), t.heap = H1 → s.vm.Alike t.vm → post u → B u t → H.size ≤ H1.size → (∀ q : Nat, q < H.size → ¬ A1 q → H1[q]? = H[q]?) → va_S A0 H0 H1 locs1 → W p l e R s m args below meth c H1 locs1 (cells + mc) (slots + ms) Q (F0 m (pc + 3) ls (rest))) : W p l e R s m args below meth c H locs cells slots Q (F0 m pc ls st0) := by
  intro T hT X
  rcases hr T hT X with ⟨v, st₀, t, T', L, h0, X', hL, e1, e2, ⟨⟨u, hv, hp, hb⟩, hF⟩, st⟩ | ⟨q, st₀, t, T', L, E, ce, h0, X', hL, e1, e2, ⟨u, hp, hb, hF⟩, hce, hcv, hcl, st⟩
  · cases hv
    obtain ⟨k1, k2, k3⟩ := vx_keep h0 e1 hS hA hf hL hF
    obtain ⟨t2, a1, b1⟩ := kk u t T'.heap (locs ++ L) e1.symm (by rw [← e2]; exact X'.warmed.alike) hp hb k1 k2 k3 T' rfl X'
    exact ⟨t2, st t2 a1, b1⟩
  · obtain ⟨k1, k2, k3⟩ := vx_keep h0 e1 hS hAX hf hL hF
    obtain ⟨t2, a1, b1⟩ := kx E ce q u t T'.heap (locs ++ L) e1.symm (by rw [← e2]; exact X'.warmed.alike) hp hb k1 k2 k3 (by rw [e1]; exact hce) hcv hcl T' rfl X'
    exact ⟨t2, st.trans a1, b1⟩
end Rows
section Ends
variable {p : Program} {l : Launch} {e : Env} {R : Room} {s : State} {m : MethodId} {args : Array Value} {below : List Frame} {meth : Method} {c : Code} {H : Heap} {locs : List Loc} {cells slots : Nat} {Q : State → Prop}
variable {mc ms : Nat} {free : Addr → Prop} {A0 A1 : Nat → Prop} {H0 : Heap} {a : Array Value} {ls : Array Slot} {st0 rest : List Value}
variable {Qc : Array Value → State → Outcome → State → Prop} {XC : String → State → State → Prop}
/-- what a body that may throw owes at its end -/
def vx_MQ (below : List Frame) (Qc : Array Value → State → Outcome → State → Prop) (XC : String → State → State → Prop) (a : Array Value) (s : State) (mc ms : Nat) (free : Addr → Prop) : State → Prop := fun t =>
  ∃ o, t.status = .running ∧ Ended t below o ∧ vx_Q Qc XC mc ms free a s o t
theorem vx_ret {g : JFrame} {mc ms : Nat} (k : W p l e R s m args below meth c H locs cells slots (MQ below Qc args s mc ms free) g) : W p l e R s m args below meth c H locs cells slots (vx_MQ below Qc XC args s mc ms free) g := by
  intro T hT X
  obtain ⟨t, a1, o, b1, b2, b3, b4⟩ := k T hT X
  exact ⟨t, a1, o, b1, b2, Or.inl ⟨b3, b4⟩⟩
/-- not caught here: it goes on to the caller -/
theorem vx_widen {g : JFrame} {q : Addr} {k n : Nat} (h1 : cells ≤ k) (h2 : slots ≤ n) (kk : vx_W p l e R s m args below meth c H locs k n Q g q) : vx_W p l e R s m args below meth c H locs cells slots Q g q := fun T hT X => kk T hT (stand_widen X h1 h2)
theorem vx_out {pc : Nat} {E : String} {ce : Cell} {q : Addr} {mc ms : Nat} (hout : ∀ x ∈ c.exceptionTable.toList, covers x pc = false) (hlocks : meth.locks = false) (hcell : H[q]? = some ce) (hv : ce.vm = .none) (hcl : s.vm.findClass E = some ce.cls)
    (hx : ∀ t : State, t.heap = H → s.vm.Alike t.vm → XC E s t) (hf : ∀ z ∈ locs, free z.base) (hc : cells ≤ mc) (hs : slots ≤ ms) :
    vx_W p l e R s m args below meth c H locs cells slots (vx_MQ below Qc XC args s mc ms free) (F0 m pc ls rest) q := by
  intro T hT X
  obtain ⟨st1, hrun, hend, hW, hsm⟩ := X.leaveThrown q (g := F0 m pc ls rest) rfl rfl rfl hout hlocks
  have hcell9 : (T.setFrames (.throwing q :: below)).heap[q]? = some ce := by
    show T.heap[q]? = some ce
    rw [hT]; exact hcell
  exact ⟨_, st1, .threw q, hrun, hend, Or.inr ⟨q, rfl, E, ce, locs, hx _ hT hW.alike, hcell9, hv, hcl, hW, hsm.mono hc hs, hf⟩⟩
theorem vx_frame {U : State} {k n : Nat} (h : s.sameButNew ({ U with vm := s.vm } : State) locs k n) : s.heap.size ≤ U.heap.size ∧ ∀ q : Nat, q < s.heap.size → (∀ z ∈ locs, z.base ≠ q) → U.heap[q]? = s.heap[q]? := by
  obtain ⟨-, h2, -, -, -, h6⟩ := h
  refine ⟨h2, fun q hq hz => ?_⟩
  obtain ⟨c9, e1, e2, e3, e4⟩ := h6 q _ (Array.getElem?_eq_getElem hq)
  have hs : c9.slots = (s.heap[q]).slots := Array.ext_getElem? fun i => e4 i fun hm => hz _ hm rfl
  have h9 : c9 = s.heap[q] := by
    rw [hs] at e2
    exact e2
  have e5 : U.heap[q]? = some c9 := e1
  rw [e5, h9, Array.getElem?_eq_getElem hq]
/-- the words of a throw but the four that speak of the heap -/
def vx_no (w : Cond) : Bool := decide (w ≠ .isRef (.static Bundle.tN "UNASSIGNED_STACK" Bundle.steD)) && decide (w ≠ .isRef (.static Bundle.tN "SUPPRESSED_SENTINEL" Bundle.listD)) && decide (w ≠ .laysStatic Bundle.tN "UNASSIGNED_STACK" Bundle.steD) && decide (w ≠ .laysStatic Bundle.tN "SUPPRESSED_SENTINEL" Bundle.listD)
def vx_at0 (own : String) (ic : Nat) (X : String) (names : List String) : List Cond := (Bundle.ownAtoms0 own ic X names).filter vx_no
def vx_atS (own : String) (ic : Nat) (X : String) (names : List String) : List Cond := (Bundle.ownAtoms own ic X names).filter vx_no
/-- a word that the tables alone decide, or a good one -/
def vx_ot (w : Cond) : Bool := w.onTables || goodWord w
theorem vx_ot_at {args a' : Array Value} {s U : State} {w : Cond} (hW : s.WarmedH U.vm) (hvm : s.vm = U.vm) (hg : vx_ot w = true) (h : w.before args s = true) : w.before a' U = true := by
  simp only [vx_ot, Bool.or_eq_true] at hg
  rcases hg with hg | hg
  · exact va_tabs hg hvm h
  · exact word_at hW (good_of_word hg) h
/-- a list's words: the good ones out of the method's own list, the others by premises of their own -/
theorem vx_hat {args : Array Value} {s : State} {L B : List Cond} (h1 : ∀ w ∈ L.filter goodWord, w.before args s = true) (h2 : ∀ w ∈ L.filter (fun w => !goodWord w), w ∈ B) (h3 : ∀ w ∈ B, w.before args s = true) : ∀ w ∈ L, w.before args s = true := by
  intro w hw
  by_cases g : goodWord w = true
  · exact h1 w (List.mem_filter.mpr ⟨hw, g⟩)
  · refine h3 w (h2 w (List.mem_filter.mpr ⟨hw, ?_⟩))
    show (!goodWord w) = true
    cases hgw : goodWord w
    · rfl
    · exact absurd hgw g
theorem vx_c {args : Array Value} {s : State} {w : Cond} {B : List Cond} (h : w.before args s = true) (t : ∀ w ∈ B, w.before args s = true) : ∀ w' ∈ w :: B, w'.before args s = true := fun w' h' => (List.mem_cons.mp h').elim (fun e => by rw [e]; exact h) (t w')
theorem vx_n {args : Array Value} {s : State} : ∀ w ∈ ([] : List Cond), w.before args s = true := fun _ h => nomatch h
theorem vx_own {args : Array Value} {s : State} {L : List Cond} (h1 : ∀ w ∈ L.filter vx_no, w.before args s = true)
    (hU : (Cond.isRef (.static Bundle.tN "UNASSIGNED_STACK" Bundle.steD)).before args s = true) (hN : (Cond.isRef (.static Bundle.tN "SUPPRESSED_SENTINEL" Bundle.listD)).before args s = true)
    (lU : (Cond.laysStatic Bundle.tN "UNASSIGNED_STACK" Bundle.steD).before args s = true) (lN : (Cond.laysStatic Bundle.tN "SUPPRESSED_SENTINEL" Bundle.listD).before args s = true) : ∀ w ∈ L, w.before args s = true := by
  intro w hw
  by_cases e1 : w = .isRef (.static Bundle.tN "UNASSIGNED_STACK" Bundle.steD)
  · rw [e1]; exact hU
  · by_cases e2 : w = .isRef (.static Bundle.tN "SUPPRESSED_SENTINEL" Bundle.listD)
    · rw [e2]; exact hN
    · by_cases e3 : w = .laysStatic Bundle.tN "UNASSIGNED_STACK" Bundle.steD
      · rw [e3]; exact lU
      · by_cases e4 : w = .laysStatic Bundle.tN "SUPPRESSED_SENTINEL" Bundle.listD
        · rw [e4]; exact lN
        · exact h1 w (List.mem_filter.mpr ⟨hw, by unfold vx_no; rw [decide_eq_true e1, decide_eq_true e2, decide_eq_true e3, decide_eq_true e4]; rfl⟩)
/-- where a static field lies, its class's statics cell in H -/
def vx_L (C n d : String) (A : Nat → Prop) (U : State) (H : Heap) : Prop := ∃ (c : ClassId) (k : Class) (i : Nat) (f : Field) (a : Nat) (cell : Cell), U.vm.findClass C = some c ∧ U.fieldFound? C n d = some (c, k, i, f) ∧ f.isStatic = true ∧ k.statics = some a ∧ H[a]? = some cell ∧ cell.vm.isStatics = true ∧ cell.cls = c ∧ f.slot < cell.slots.size ∧ k.staticTypes[f.slot]? = some f.type ∧ ¬ A a
theorem vx_L.moved {C n d : String} {A : Nat → Prop} {u U : State} {H : Heap} (hvm : u.vm.Alike U.vm) (h : vx_L C n d A u H) : vx_L C n d A U H := by
  obtain ⟨c, k, i, f, a, cell, h1, h2, h3, h4, h5, h6, h7, h8, h9, h10⟩ := h
  obtain ⟨k', hi', he⟩ := State.fieldFound?_setVm hvm h2
  exact ⟨c, k', i, f, a, cell, by rw [hvm.findClass]; exact h1, hi', h3, by rw [he]; exact h4, h5, h6, h7, h8, by rw [he]; exact h9, h10⟩
theorem vx_L.kept {C n d : String} {A : Nat → Prop} {U : State} {H H1 : Heap} (h : vx_L C n d A U H) (hq : ∀ a : Nat, a < H.size → ¬ A a → H1[a]? = H[a]?) : vx_L C n d A U H1 := by
  obtain ⟨c, k, i, f, a, cell, h1, h2, h3, h4, h5, h6, h7, h8, h9, h10⟩ := h
  exact ⟨c, k, i, f, a, cell, h1, h2, h3, h4, by rw [hq a (Array.getElem?_eq_some_iff.mp h5).1 h10]; exact h5, h6, h7, h8, h9, h10⟩
theorem vx_L.narrow {C n d : String} {A B : Nat → Prop} {U : State} {H : Heap} (h : vx_L C n d A U H) (hAB : ∀ q, B q → A q) : vx_L C n d B U H := by
  obtain ⟨c, k, i, f, a, cell, h1, h2, h3, h4, h5, h6, h7, h8, h9, h10⟩ := h
  exact ⟨c, k, i, f, a, cell, h1, h2, h3, h4, h5, h6, h7, h8, h9, fun z => h10 (hAB _ z)⟩
theorem vx_L.word {C n d : String} {A : Nat → Prop} {s : State} {args : Array Value} (h : vx_L C n d A s s.heap) : (Cond.laysStatic C n d).before args s = true := by
  obtain ⟨c, k, i, f, a, cell, h1, h2, h3, h4, h5, h6, h7, h8, h9, -⟩ := h
  show (Cond.laysStatic C n d).holds args s none s [] = true
  exact Cond.laysStatic_of h1 h2 h3 h4 h5 h6 h7 h8 h9
/-- .. and what it holds: null or some reference -/
def vx_Zq (C n d : String) (A : Nat → Prop) (U : State) (H : Heap) : Prop := va_Zq C n d A U H ∧ vx_L C n d A U H
theorem vx_Zq.moved {C n d : String} {A : Nat → Prop} {u U : State} {H : Heap} (hvm : u.vm.Alike U.vm) (h : vx_Zq C n d A u H) : vx_Zq C n d A U H := ⟨va_Zq.moved hvm h.1, vx_L.moved hvm h.2⟩
theorem vx_Zq.kept {C n d : String} {A : Nat → Prop} {U : State} {H H1 : Heap} (h : vx_Zq C n d A U H) (hq : ∀ a : Nat, a < H.size → ¬ A a → H1[a]? = H[a]?) : vx_Zq C n d A U H1 := ⟨va_Zq.kept h.1 hq, vx_L.kept h.2 hq⟩
theorem vx_Zq.narrow {C n d : String} {A B : Nat → Prop} {U : State} {H : Heap} (h : vx_Zq C n d A U H) (hAB : ∀ q, B q → A q) : vx_Zq C n d B U H := ⟨va_Zq.narrow h.1 hAB, vx_L.narrow h.2 hAB⟩
theorem vx_Zqof {args : Array Value} {s : State} {C n d : String} {A : Nat → Prop} (hl : (Cond.laysStatic C n d).before args s = true) (hini : (Cond.initialized C).before args s = true) (h : (Cond.isRef (.static C n d)).before args s = true) (hA : ∀ a : Nat, a < s.heap.size → ¬ A a) : vx_Zq C n d A s s.heap := by
  refine ⟨va_Zqof hl hini h hA, ?_⟩
  obtain ⟨c, k, i, f, a, cell, h1, h2, h3, h4, h5, h6, h7, h8, h9⟩ := Cond.laysStatic_spec hl
  exact ⟨c, k, i, f, a, cell, h1, h2, h3, h4, h5, h6, h7, h8, h9, hA a (Array.getElem?_eq_some_iff.mp h5).1⟩
theorem vx_isRef {C n d : String} {v : Value} {A : Nat → Prop} {s : State} {args : Array Value} (h : va_Z C n d v A s s.heap) (hv : v.isRef = true) : (Cond.isRef (.static C n d)).before args s = true := by
  obtain ⟨cf, kf, fi, f, a, cell, h1, h2, h3, h4, h5, h6, h7, -⟩ := h
  have he : (Term.static C n d).eval args s none [] s = some v := by
    simp [Term.eval, State.fieldNamed?, h1, h2, h4, h5, h6, h7]
  simp only [Cond.before, Cond.holds, Cond.value, he]
  cases v <;> simp_all [Value.isRef]
theorem vx_isRefq {C n d : String} {A : Nat → Prop} {s : State} {args : Array Value} (h : va_Zq C n d A s s.heap) : (Cond.isRef (.static C n d)).before args s = true := by
  rcases h with h | ⟨t, h⟩
  · exact vx_isRef h rfl
  · exact vx_isRef h rfl
/-- the same frame, seen from here: as if the method were called anew in this heap -/
theorem vx_rebase {T : State} (X : Stand p l e R s m args below meth c T locs cells slots) {R' : Room} (hf : R'.frames ≤ R.frames) (hl : R'.locals ≤ R.locals) (hc : cells + R'.cells ≤ R.cells) (hs : slots + R'.slots ≤ R.slots) :
    Stand p l e R' ((T.setVm s.vm).setFrames (.invoking m args :: below)) m args below meth c T [] 0 0 := by
  have htop : (T.setVm s.vm).topJava?.isSome := X.here.top
  have hF : ((T.setVm s.vm).setFrames (.invoking m args :: below)).frames = .invoking m args :: below := State.frames_setFrames _ (State.cur_lt_of_top htop)
  obtain ⟨g₀, hg0⟩ := Option.isSome_iff_exists.mp htop
  obtain ⟨r, hr⟩ := State.topJava?_eq_some.mp hg0
  have hl9 : e.platform.stackLimits (T.setVm s.vm).me = e.platform.stackLimits s.me := X.limits
  have hb9 : (T.setVm s.vm).me.stackBytes = s.me.stackBytes := X.bytes
  refine ⟨X.admits, X.cas, X.clock, hF, ?_, X.hears, X.method, X.code, X.here, X.tail, X.warmed, ?_, ?_, ?_⟩
  · have h := X.room
    have hU : ((T.setVm s.vm).setFrames (.invoking m args :: below)).localsInUse = s.localsInUse := by
      rw [State.localsInUse_invoking hF (meth := meth) (c := c) X.method X.code, State.localsInUse_invoking X.frames X.method X.code]
    simp only [State.hasRoom, Bool.and_eq_true, decide_eq_true_eq] at h ⊢
    obtain ⟨⟨⟨⟨h1, h2, h3, h4, h5, h6⟩, h7⟩, h8⟩, h9⟩ := h
    rw [X.frames, List.length_cons] at h2 h3
    have q1 := X.heapSize
    have q2 := X.used
    simp only [hF, hU, List.length_cons, State.stackLimits_setFrames, State.stackBytes_setFrames, hl9, hb9]
    refine ⟨⟨⟨⟨by omega, by omega, by omega, by omega, by omega, h6⟩, ?_⟩, ?_⟩, X.book⟩
    · show T.heap.size + R'.cells ≤ e.platform.maxCells
      omega
    · show T.slotsUsed + R'.slots ≤ e.platform.maxSlots
      omega
  · rw [State.stackLimits_setFrames]; rfl
  · rw [State.stackBytes_setFrames]; rfl
  · refine ⟨?_, Nat.le_refl _, Nat.le_refl _, ?_, ?_, fun a c9 h9 => ⟨c9, h9, rfl, rfl, fun _ _ => rfl⟩⟩
    · obtain ⟨t, ht, -⟩ := State.frames_cons hr
      show T.setVm s.vm = { ((T.setVm s.vm).setFrames (.invoking m args :: below)).setFrames (T.setVm s.vm).frames with heap := T.heap, slotsUsed := T.slotsUsed }
      rw [State.setFrames_setFrames, State.setFrames_self ht]
      rfl
    · show T.slotsUsed = T.slotsUsed + ((T.heap.toList.drop T.heap.size).map (·.slots.size)).sum
      rw [List.drop_eq_nil_of_le (Nat.le_of_eq Array.length_toList)]
      rfl
    · show ((T.heap.toList.drop T.heap.size).map (·.slots.size)).sum ≤ 0
      rw [List.drop_eq_nil_of_le (Nat.le_of_eq Array.length_toList)]
      exact Nat.le_refl _
/-- 'throw new E()': new; dup; invokespecial; athrow -/
theorem vx_throw0 {cc : ByteArray} {pc : Nat} (hexec : p.tables.exec = Jvm.exec) (hb : c.code = cc) (hl : l.stackTraces = false) {own cls : String} {names : List String} {ik ic mc ms : Nat} {A : Nat → Prop}
    (hown : s.vm.findClass own = some m.cls) (hcls : Bundle.fit cls = true) (hnames : ∀ n ∈ names, Bundle.fit n = true)
    (hk : (Cond.classLink own ik cls).before args s = true) (hini : (Cond.initialized cls).before args s = true) (hat : ∀ w ∈ vx_at0 own ic cls names, w.before args s = true)
    (hgood : ∀ w ∈ Cond.classLink own ik cls :: Cond.initialized cls :: vx_at0 own ic cls names, vx_ot w = true)
    (hU : vx_Zq Bundle.tN "UNASSIGNED_STACK" Bundle.steD A s s.heap) (hN : vx_Zq Bundle.tN "SUPPRESSED_SENTINEL" Bundle.listD A s s.heap) (hS : va_S A s.heap H locs) (hsize : ls.size = c.maxLocals)
    (d0 : decode cc pc = .ok (.new ik, 3)) (d3 : decode cc (pc + 3) = .ok (.dup, 1)) (d4 : decode cc (pc + 4) = .ok (.invokespecial ic, 3)) (d7 : decode cc (pc + 7) = .ok (.athrow, 1))
    (hout : ∀ x ∈ c.exceptionTable.toList, covers x (pc + 7) = false)
    (hRframes : names.length + 3 < R.frames) (hRlocals : (rest.map fun v => v.category).sum + (13 * (names.length + 1) + 42) ≤ R.locals) (hRcells : cells + 1 ≤ R.cells) (hRslots : slots + 6 ≤ R.slots) (hlocks : meth.locks = false)
    (hx : ∀ t : State, s.vm.Alike t.vm → H.size ≤ t.heap.size → (∀ q : Nat, q < H.size → t.heap[q]? = H[q]?) → XC cls s t)
    (hf : ∀ z ∈ locs, free z.base) (hc : cells + 1 ≤ mc) (hs : slots + 6 ≤ ms) :
    W p l e R s m args below meth c H locs cells slots (vx_MQ below Qc XC args s mc ms free) (F0 m pc ls rest) := by
  intro T hT X
  have htr : e.platform.stackTraces = false := (show e.platform.stackTraces = l.stackTraces by rw [X.admits.platform]).trans hl
  have Y := vx_rebase X (R' := { frames := R.frames, locals := R.locals, cells := 1, slots := 6 }) (Nat.le_refl _) (Nat.le_refl _) hRcells hRslots
  obtain ⟨s', hA⟩ : ∃ z, z = (T.setVm s.vm).setFrames (.invoking m args :: below) := ⟨_, rfl⟩
  rw [← hA] at Y
  have hvm : s'.vm = s.vm := by rw [hA]; rfl
  have hhp : s'.heap = H := by rw [hA]; exact hT
  have hW0 : s.WarmedH s'.vm := by rw [hvm]; exact State.WarmedH.refl s
  have hat' : ∀ w ∈ vx_at0 own ic cls names, w.before args s' = true := fun w hw => vx_ot_at hW0 hvm.symm (hgood w (List.mem_cons_of_mem _ (List.mem_cons_of_mem _ hw))) (hat w hw)
  have hk' : (Cond.classLink own ik cls).before args s' = true := vx_ot_at hW0 hvm.symm (hgood _ List.mem_cons_self) hk
  have hini' : (Cond.initialized cls).before args s' = true := vx_ot_at hW0 hvm.symm (hgood _ (List.mem_cons_of_mem _ List.mem_cons_self)) hini
  have hU' : vx_Zq Bundle.tN "UNASSIGNED_STACK" Bundle.steD A s' s'.heap := by rw [hhp]; exact vx_Zq.moved hW0.alike (hU.kept hS.2.1)
  have hN' : vx_Zq Bundle.tN "SUPPRESSED_SENTINEL" Bundle.listD A s' s'.heap := by rw [hhp]; exact vx_Zq.moved hW0.alike (hN.kept hS.2.1)
  have h : ∀ w ∈ Bundle.ownAtoms0 own ic cls names, w.before args s' = true := vx_own hat' (vx_isRefq hU'.1) (vx_isRefq hN'.1) hU'.2.word hN'.2.word
  have hown' : s'.vm.findClass own = some m.cls := by rw [hvm]; exact hown
  have hins : (Cond.instantiable cls 6).before args s' = true := h _ (by simp [Bundle.ownAtoms0])
  obtain ⟨vm₁, cX, kX, hfX, hkX, -, -, X₁, st1⟩ := Y.newCold hexec (own := own) (C := cls) (index := ik) (n := 6) hown' hk' hins hini'
    (g := F0 m pc ls rest) rfl (by rw [hb]; exact d0) (Nat.le_refl _) (Nat.le_refl _)
  generalize hT1 : (T.setVm vm₁).pushCell { cls := cX, slots := kX.instanceTypes.map defaultValue, vm := .none } = T1 at X₁ st1
  have hcat : (Value.ref T.heap.size).category = 1 := rfl
  have hcellA : T1.heap[T.heap.size]? = some (freshCell cX kX) := by rw [← hT1]; exact State.heap_pushCell_size _ _
  have d3' : decode c.code (pc + 3) = .ok (.dup, 1) := by rw [hb]; exact d3
  obtain ⟨U, hsteps, hrun, hend, hW, hsame, ce, hce, hO⟩ := X₁.ctorThrow0 hexec htr (own := own) (cls := cls) (names := names) (ic := ic) hown' hcls hnames h (fun x hx => nomatch hx) hfX hkX hcellA (by rw [hhp, hT]; exact Nat.le_refl _)
    (g := { method := m, pc := pc + 4, locals := ls, stack := .ref T.heap.size :: .ref T.heap.size :: rest, locked := none }) rfl hsize rfl rfl (rest := rest) rfl
    (by rw [hb]; exact d4) (by rw [hb]; exact d7) hout hRframes (by simp only [List.map_cons, List.sum_cons, hcat]; omega) hlocks
  obtain ⟨f1, f2⟩ := vx_frame hsame
  rw [hhp] at f1 f2
  have hWs : s.WarmedH U.vm := State.WarmedH.trans hW0 hW
  have hcl : s.vm.findClass cls = some ce.cls := by
    have h9 := hO.cls
    rw [hvm] at h9
    exact h9
  have hall : s.sameButNew ({ U with vm := s.vm } : State) locs mc ms := by
    subst hA
    obtain ⟨e1, e2⟩ := hsame
    rw [State.setFrames_setFrames] at e1
    have h2 : (T.setVm s.vm).sameButNew ({ U with vm := s.vm } : State) [] (0 + 1) (0 + 6) := ⟨e1, e2⟩
    have h3 := X.same.trans h2
    rw [List.append_nil] at h3
    exact h3.mono hc hs
  refine ⟨U, ?_, .threw T.heap.size, hrun, hend, Or.inr ⟨T.heap.size, rfl, cls, ce, locs, hx U hWs.alike f1 (fun q hq => f2 q hq (fun z hz => nomatch hz)), hce, hO.vm, hcl, hWs, hall, hf⟩⟩
  refine st1 _ ?_
  show Steps p.tables e below (T1.setTop { method := m, pc := pc + 3, locals := ls, stack := .ref T.heap.size :: rest, locked := none }) _
  jvm_step X₁.here [X₁.here.top, hexec, d3', Value.category]
  exact hsteps
/-- 'throw new E("text")': new; dup; ldc; invokespecial; athrow -/
theorem vx_throwS {cc : ByteArray} {pc : Nat} (hexec : p.tables.exec = Jvm.exec) (hb : c.code = cc) (hl : l.stackTraces = false) {own cls text : String} {names : List String} {ik is ic mc ms sa : Nat} {A : Nat → Prop}
    (hown : s.vm.findClass own = some m.cls) (hcls : Bundle.fit cls = true) (hnames : ∀ n ∈ names, Bundle.fit n = true)
    (hk : (Cond.classLink own ik cls).before args s = true) (hini : (Cond.initialized cls).before args s = true) (hstr : vk_R own is text sa s) (hat : ∀ w ∈ vx_atS own ic cls names, w.before args s = true)
    (hgood : ∀ w ∈ Cond.classLink own ik cls :: Cond.initialized cls :: vx_atS own ic cls names, vx_ot w = true)
    (hU : vx_Zq Bundle.tN "UNASSIGNED_STACK" Bundle.steD A s s.heap) (hN : vx_Zq Bundle.tN "SUPPRESSED_SENTINEL" Bundle.listD A s s.heap) (hS : va_S A s.heap H locs) (hsize : ls.size = c.maxLocals)
    (d0 : decode cc pc = .ok (.new ik, 3)) (d3 : decode cc (pc + 3) = .ok (.dup, 1)) (d4 : decode cc (pc + 4) = .ok (.ldc is, 2)) (d6 : decode cc (pc + 6) = .ok (.invokespecial ic, 3)) (d9 : decode cc (pc + 9) = .ok (.athrow, 1))
    (hout : ∀ x ∈ c.exceptionTable.toList, covers x (pc + 9) = false)
    (hRframes : names.length + 3 < R.frames) (hRlocals : (rest.map fun v => v.category).sum + (13 * (names.length + 1) + 43) ≤ R.locals) (hRcells : cells + 1 ≤ R.cells) (hRslots : slots + 6 ≤ R.slots) (hlocks : meth.locks = false)
    (hx : ∀ t : State, s.vm.Alike t.vm → H.size ≤ t.heap.size → (∀ q : Nat, q < H.size → t.heap[q]? = H[q]?) → XC cls s t)
    (hf : ∀ z ∈ locs, free z.base) (hc : cells + 1 ≤ mc) (hs : slots + 6 ≤ ms) :
    W p l e R s m args below meth c H locs cells slots (vx_MQ below Qc XC args s mc ms free) (F0 m pc ls rest) := by
  intro T hT X
  have htr : e.platform.stackTraces = false := (show e.platform.stackTraces = l.stackTraces by rw [X.admits.platform]).trans hl
  have Y := vx_rebase X (R' := { frames := R.frames, locals := R.locals, cells := 1, slots := 6 }) (Nat.le_refl _) (Nat.le_refl _) hRcells hRslots
  obtain ⟨s', hA⟩ : ∃ z, z = (T.setVm s.vm).setFrames (.invoking m args :: below) := ⟨_, rfl⟩
  rw [← hA] at Y
  have hvm : s'.vm = s.vm := by rw [hA]; rfl
  have hhp : s'.heap = H := by rw [hA]; exact hT
  have hW0 : s.WarmedH s'.vm := by rw [hvm]; exact State.WarmedH.refl s
  have hat' : ∀ w ∈ vx_atS own ic cls names, w.before args s' = true := fun w hw => vx_ot_at hW0 hvm.symm (hgood w (List.mem_cons_of_mem _ (List.mem_cons_of_mem _ hw))) (hat w hw)
  have hk' : (Cond.classLink own ik cls).before args s' = true := vx_ot_at hW0 hvm.symm (hgood _ List.mem_cons_self) hk
  have hini' : (Cond.initialized cls).before args s' = true := vx_ot_at hW0 hvm.symm (hgood _ (List.mem_cons_of_mem _ List.mem_cons_self)) hini
  have hU' : vx_Zq Bundle.tN "UNASSIGNED_STACK" Bundle.steD A s' s'.heap := by rw [hhp]; exact vx_Zq.moved hW0.alike (hU.kept hS.2.1)
  have hN' : vx_Zq Bundle.tN "SUPPRESSED_SENTINEL" Bundle.listD A s' s'.heap := by rw [hhp]; exact vx_Zq.moved hW0.alike (hN.kept hS.2.1)
  have h : ∀ w ∈ Bundle.ownAtoms own ic cls names, w.before args s' = true := vx_own hat' (vx_isRefq hU'.1) (vx_isRefq hN'.1) hU'.2.word hN'.2.word
  have hown' : s'.vm.findClass own = some m.cls := by rw [hvm]; exact hown
  have hins : (Cond.instantiable cls 6).before args s' = true := h _ (by simp [Bundle.ownAtoms])
  obtain ⟨vm₁, cX, kX, hfX, hkX, -, -, X₁, st1⟩ := Y.newCold hexec (own := own) (C := cls) (index := ik) (n := 6) hown' hk' hins hini'
    (g := F0 m pc ls rest) rfl (by rw [hb]; exact d0) (Nat.le_refl _) (Nat.le_refl _)
  generalize hT1 : (T.setVm vm₁).pushCell { cls := cX, slots := kX.instanceTypes.map defaultValue, vm := .none } = T1 at X₁ st1
  have hcat : (Value.ref T.heap.size).category = 1 := rfl
  have hcellA : T1.heap[T.heap.size]? = some (freshCell cX kX) := by rw [← hT1]; exact State.heap_pushCell_size _ _
  have d3' : decode c.code (pc + 3) = .ok (.dup, 1) := by rw [hb]; exact d3
  have d4' : decode c.code (pc + 4) = .ok (.ldc is, 2) := by rw [hb]; exact d4
  have hstr' : vk_R own is text sa s' := vk_R.warm hW0 hstr
  obtain ⟨U, hsteps, hrun, hend, hW, hsame, ce, hce, hO⟩ := X₁.ctorThrowS hexec htr (own := own) (cls := cls) (names := names) (ic := ic) hown' hcls hnames h (fun x hx => nomatch hx) hfX hkX hcellA (by rw [hhp, hT]; exact Nat.le_refl _) (msg := .ref sa) rfl
    (g := { method := m, pc := pc + 6, locals := ls, stack := .ref sa :: .ref T.heap.size :: .ref T.heap.size :: rest, locked := none }) rfl hsize rfl rfl (rest := rest) rfl
    (by rw [hb]; exact d6) (by rw [hb]; exact d9) hout hRframes (by simp only [List.map_cons, List.sum_cons, hcat]; omega) hlocks
  obtain ⟨f1, f2⟩ := vx_frame hsame
  rw [hhp] at f1 f2
  have hWs : s.WarmedH U.vm := State.WarmedH.trans hW0 hW
  have hcl : s.vm.findClass cls = some ce.cls := by
    have h9 := hO.cls
    rw [hvm] at h9
    exact h9
  have hall : s.sameButNew ({ U with vm := s.vm } : State) locs mc ms := by
    subst hA
    obtain ⟨e1, e2⟩ := hsame
    rw [State.setFrames_setFrames] at e1
    have h2 : (T.setVm s.vm).sameButNew ({ U with vm := s.vm } : State) [] (0 + 1) (0 + 6) := ⟨e1, e2⟩
    have h3 := X.same.trans h2
    rw [List.append_nil] at h3
    exact h3.mono hc hs
  refine ⟨U, ?_, .threw T.heap.size, hrun, hend, Or.inr ⟨T.heap.size, rfl, cls, ce, locs, hx U hWs.alike f1 (fun q hq => f2 q hq (fun z hz => nomatch hz)), hce, hO.vm, hcl, hWs, hall, hf⟩⟩
  refine st1 _ ?_
  show Steps p.tables e below (T1.setTop { method := m, pc := pc + 3, locals := ls, stack := .ref T.heap.size :: rest, locked := none }) _
  jvm_step X₁.here [X₁.here.top, hexec, d3', Value.category]
  exact X₁.ldcString hexec (own := own) (text := text) (index := is) (a := sa) hown' hstr'.1 hstr'.2
    (g := { method := m, pc := pc + 4, locals := ls, stack := .ref T.heap.size :: .ref T.heap.size :: rest, locked := none }) rfl d4' _ hsteps
/-- 'throw new E("text")', the text by a wide index -/
theorem vx_throwSW {cc : ByteArray} {pc : Nat} (hexec : p.tables.exec = Jvm.exec) (hb : c.code = cc) (hl : l.stackTraces = false) {own cls text : String} {names : List String} {ik is ic mc ms sa : Nat} {A : Nat → Prop}
    (hown : s.vm.findClass own = some m.cls) (hcls : Bundle.fit cls = true) (hnames : ∀ n ∈ names, Bundle.fit n = true)
    (hk : (Cond.classLink own ik cls).before args s = true) (hini : (Cond.initialized cls).before args s = true) (hstr : vk_R own is text sa s) (hat : ∀ w ∈ vx_atS own ic cls names, w.before args s = true)
    (hgood : ∀ w ∈ Cond.classLink own ik cls :: Cond.initialized cls :: vx_atS own ic cls names, vx_ot w = true)
    (hU : vx_Zq Bundle.tN "UNASSIGNED_STACK" Bundle.steD A s s.heap) (hN : vx_Zq Bundle.tN "SUPPRESSED_SENTINEL" Bundle.listD A s s.heap) (hS : va_S A s.heap H locs) (hsize : ls.size = c.maxLocals)
    (d0 : decode cc pc = .ok (.new ik, 3)) (d3 : decode cc (pc + 3) = .ok (.dup, 1)) (d4 : decode cc (pc + 4) = .ok (.ldc_w is, 3)) (d7 : decode cc (pc + 7) = .ok (.invokespecial ic, 3)) (d10 : decode cc (pc + 10) = .ok (.athrow, 1))
    (hout : ∀ x ∈ c.exceptionTable.toList, covers x (pc + 10) = false)
    (hRframes : names.length + 3 < R.frames) (hRlocals : (rest.map fun v => v.category).sum + (13 * (names.length + 1) + 43) ≤ R.locals) (hRcells : cells + 1 ≤ R.cells) (hRslots : slots + 6 ≤ R.slots) (hlocks : meth.locks = false)
    (hx : ∀ t : State, s.vm.Alike t.vm → H.size ≤ t.heap.size → (∀ q : Nat, q < H.size → t.heap[q]? = H[q]?) → XC cls s t)
    (hf : ∀ z ∈ locs, free z.base) (hc : cells + 1 ≤ mc) (hs : slots + 6 ≤ ms) :
    W p l e R s m args below meth c H locs cells slots (vx_MQ below Qc XC args s mc ms free) (F0 m pc ls rest) := by
  intro T hT X
  have htr : e.platform.stackTraces = false := (show e.platform.stackTraces = l.stackTraces by rw [X.admits.platform]).trans hl
  have Y := vx_rebase X (R' := { frames := R.frames, locals := R.locals, cells := 1, slots := 6 }) (Nat.le_refl _) (Nat.le_refl _) hRcells hRslots
  obtain ⟨s', hA⟩ : ∃ z, z = (T.setVm s.vm).setFrames (.invoking m args :: below) := ⟨_, rfl⟩
  rw [← hA] at Y
  have hvm : s'.vm = s.vm := by rw [hA]; rfl
  have hhp : s'.heap = H := by rw [hA]; exact hT
  have hW0 : s.WarmedH s'.vm := by rw [hvm]; exact State.WarmedH.refl s
  have hat' : ∀ w ∈ vx_atS own ic cls names, w.before args s' = true := fun w hw => vx_ot_at hW0 hvm.symm (hgood w (List.mem_cons_of_mem _ (List.mem_cons_of_mem _ hw))) (hat w hw)
  have hk' : (Cond.classLink own ik cls).before args s' = true := vx_ot_at hW0 hvm.symm (hgood _ List.mem_cons_self) hk
  have hini' : (Cond.initialized cls).before args s' = true := vx_ot_at hW0 hvm.symm (hgood _ (List.mem_cons_of_mem _ List.mem_cons_self)) hini
  have hU' : vx_Zq Bundle.tN "UNASSIGNED_STACK" Bundle.steD A s' s'.heap := by rw [hhp]; exact vx_Zq.moved hW0.alike (hU.kept hS.2.1)
  have hN' : vx_Zq Bundle.tN "SUPPRESSED_SENTINEL" Bundle.listD A s' s'.heap := by rw [hhp]; exact vx_Zq.moved hW0.alike (hN.kept hS.2.1)
  have h : ∀ w ∈ Bundle.ownAtoms own ic cls names, w.before args s' = true := vx_own hat' (vx_isRefq hU'.1) (vx_isRefq hN'.1) hU'.2.word hN'.2.word
  have hown' : s'.vm.findClass own = some m.cls := by rw [hvm]; exact hown
  have hins : (Cond.instantiable cls 6).before args s' = true := h _ (by simp [Bundle.ownAtoms])
  obtain ⟨vm₁, cX, kX, hfX, hkX, -, -, X₁, st1⟩ := Y.newCold hexec (own := own) (C := cls) (index := ik) (n := 6) hown' hk' hins hini'
    (g := F0 m pc ls rest) rfl (by rw [hb]; exact d0) (Nat.le_refl _) (Nat.le_refl _)
  generalize hT1 : (T.setVm vm₁).pushCell { cls := cX, slots := kX.instanceTypes.map defaultValue, vm := .none } = T1 at X₁ st1
  have hcat : (Value.ref T.heap.size).category = 1 := rfl
  have hcellA : T1.heap[T.heap.size]? = some (freshCell cX kX) := by rw [← hT1]; exact State.heap_pushCell_size _ _
  have d3' : decode c.code (pc + 3) = .ok (.dup, 1) := by rw [hb]; exact d3
  have d4' : decode c.code (pc + 4) = .ok (.ldc_w is, 3) := by rw [hb]; exact d4
  have hstr' : vk_R own is text sa s' := vk_R.warm hW0 hstr
  obtain ⟨U, hsteps, hrun, hend, hW, hsame, ce, hce, hO⟩ := X₁.ctorThrowS hexec htr (own := own) (cls := cls) (names := names) (ic := ic) hown' hcls hnames h (fun x hx => nomatch hx) hfX hkX hcellA (by rw [hhp, hT]; exact Nat.le_refl _) (msg := .ref sa) rfl
    (g := { method := m, pc := pc + 7, locals := ls, stack := .ref sa :: .ref T.heap.size :: .ref T.heap.size :: rest, locked := none }) rfl hsize rfl rfl (rest := rest) rfl
    (by rw [hb]; exact d7) (by rw [hb]; exact d10) hout hRframes (by simp only [List.map_cons, List.sum_cons, hcat]; omega) hlocks
  obtain ⟨f1, f2⟩ := vx_frame hsame
  rw [hhp] at f1 f2
  have hWs : s.WarmedH U.vm := State.WarmedH.trans hW0 hW
  have hcl : s.vm.findClass cls = some ce.cls := by
    have h9 := hO.cls
    rw [hvm] at h9
    exact h9
  have hall : s.sameButNew ({ U with vm := s.vm } : State) locs mc ms := by
    subst hA
    obtain ⟨e1, e2⟩ := hsame
    rw [State.setFrames_setFrames] at e1
    have h2 : (T.setVm s.vm).sameButNew ({ U with vm := s.vm } : State) [] (0 + 1) (0 + 6) := ⟨e1, e2⟩
    have h3 := X.same.trans h2
    rw [List.append_nil] at h3
    exact h3.mono hc hs
  refine ⟨U, ?_, .threw T.heap.size, hrun, hend, Or.inr ⟨T.heap.size, rfl, cls, ce, locs, hx U hWs.alike f1 (fun q hq => f2 q hq (fun z hz => nomatch hz)), hce, hO.vm, hcl, hWs, hall, hf⟩⟩
  refine st1 _ ?_
  show Steps p.tables e below (T1.setTop { method := m, pc := pc + 3, locals := ls, stack := .ref T.heap.size :: rest, locked := none }) _
  jvm_step X₁.here [X₁.here.top, hexec, d3', Value.category]
  exact X₁.ldcStringW hexec (own := own) (text := text) (index := is) (a := sa) hown' hstr'.1 hstr'.2
    (g := { method := m, pc := pc + 4, locals := ls, stack := .ref T.heap.size :: .ref T.heap.size :: rest, locked := none }) rfl d4' _ hsteps
end Ends
section Bodies
variable {l : Launch}
theorem vx_ofW {y : MethodName} {ws ws' : List Cond} {rm : Room} {Pc : Array Value → State → Prop} {Qc : Array Value → State → Outcome → State → Prop} {XC : String → State → State → Prop} {mc ms : Nat} {free : Addr → Prop} {cc : ByteArray} {maxL : Nat} {ret : Option FieldType}
    (hy : plainName y.cls = true) (hw : ws = Cond.code y cc maxL ret :: ws')
    (body : ∀ p e s m args below meth c s₁, BodyLoose p l y (headSpec ws rm) cc maxL ret e s m args below meth c s₁ → c.maxLocals = maxL → (∀ x ∈ c.exceptionTable.toList, False) → Pc args s →
      W p l e (headSpec ws rm).room s m args below meth c s.heap [] 0 0 (vx_MQ below Qc XC args s mc ms free) (entryFrame m args maxL)) : vx_Met l y ws rm Pc Qc XC mc ms free := by
  refine MetFree.of_bodyS (code := cc) (maxLocals := maxL) (ret := ret) hy ?_ ?_
  · intro args s m h hn
    obtain ⟨meth, c, h1, h2, h3, h4, h5, h6, -, -⟩ := Cond.code_spec hn (atoms_spec (ws := ws) h _ (by rw [hw]; exact List.mem_cons_self))
    exact ⟨meth, c, h1, h2, h3, h4, h5, h6⟩
  · intro p e s m args below meth c s₁ B hml hP _
    have hh0 : s₁.heap = s.heap := by rw [B.state]; rfl
    have ht : ∀ x ∈ c.exceptionTable.toList, False := by
      obtain ⟨meth9, c9, h1, h2, -, -, -, -, h7, -⟩ := Cond.code_spec B.named (atoms_spec (ws := ws) B.pre _ (by rw [hw]; exact List.mem_cons_self))
      cases Option.some.inj (h1.symm.trans B.method)
      cases Option.some.inj (h2.symm.trans (Stand.of_body B).code)
      intro x hx
      rw [Array.isEmpty_iff.mp h7] at hx
      cases hx
    obtain ⟨t, a1, o, b1, b2, b3⟩ := body p e s m args below meth c s₁ B hml ht hP s₁ hh0 (Stand.of_body B)
    exact ⟨t, o, a1, b1, b2, b3⟩
/-- the table of a body with handlers -/
theorem vx_table {p : Program} {x y : MethodName} {S : Spec} {cc bytes : ByteArray} {maxL maxL' : Nat} {ret ret' : Option FieldType} {e : Env} {s s₁ : State} {m : MethodId} {args : Array Value} {below : List Frame} {meth : Method} {c : Code} {hh : List (Nat × Nat × Nat × Nat)}
    (B : BodyLoose p l y S cc maxL ret e s m args below meth c s₁) (h : (Cond.codeWith y bytes maxL' ret' hh).before args s = true) : c.exceptionTable.toList = tableOf hh := by
  obtain ⟨m9, meth9, c9, hn9, h1, h2, -, -, h6, -⟩ := Cond.codeWith_spec h
  cases Option.some.inj (hn9.symm.trans B.named)
  cases Option.some.inj (h1.symm.trans B.method)
  cases Option.some.inj (h2.symm.trans (Stand.of_body B).code)
  rw [← h6, table_eq]
end Bodies
end VXA
/-! ===== END ===== -/
/-! ===== BEGIN a static call of a method with an exception table ===== -/
section VXS
variable {p : Program} {l : Launch} {e : Env} {R : Room} {s : State} {m : MethodId} {args : Array Value} {below : List Frame} {meth : Method} {c : Code} {T : State} {H : Heap} {locs : List Loc} {cells slots : Nat}
abbrev vx_CSW (R : Room) (s : State) (args : Array Value) (own : String) (index : Nat) (y : MethodName) (bytes : ByteArray) (maxL : Nat) (ret : Option FieldType) (hh : List (Nat × Nat × Nat × Nat)) (ws : List Cond) (rm : Room) (mc ms n : Nat) : Prop :=
  (rm.cells = mc ∧ rm.slots = ms ∧ rm.frames + 1 ≤ R.frames ∧ 8 + (maxL + 11) + rm.locals ≤ R.locals ∧ (∀ w ∈ ws, ∀ (a' : Array Value) (U : State), s.WarmedH U.vm → w.before a' U = true) ∧ Cond.codeWith y bytes maxL ret hh ∈ ws) ∧
  (Cond.codeWith y bytes maxL ret hh).before args s = true ∧ (Cond.initialized y.cls).before args s = true ∧ (y.cls ≠ "java/lang/invoke/MethodHandle" ∧ y.cls ≠ "java/lang/invoke/VarHandle") ∧
  (∀ sig, parseMethodDescriptor y.desc = some sig → n = sig.parameters.length) ∧ (Cond.methodLink own index y).before args s = true ∧ (Cond.static y).before args s = true
theorem vx_cwSW {own : String} {index maxL mc ms : Nat} {y : MethodName} {bytes : ByteArray} {ret : Option FieldType} {hh : List (Nat × Nat × Nat × Nat)} {Ts ws ws' : List Cond} {rm : Room} (n : Nat) (ht : ∀ w ∈ Ts, w.before args s = true) (hT : GoodIn Ts (va_wsS own index y ws)) (hw : ws = Cond.codeWith y bytes maxL ret hh :: ws') (hrc : rm.cells = mc) (hrs : rm.slots = ms)
    (hd : y.cls ≠ "java/lang/invoke/MethodHandle" ∧ y.cls ≠ "java/lang/invoke/VarHandle" ∧ (parseMethodDescriptor y.desc).map (fun d => d.parameters.length) = some n) (hR : rm.frames + 1 ≤ R.frames ∧ 8 + (maxL + 11) + rm.locals ≤ R.locals) :
    vx_CSW R s args own index y bytes maxL ret hh ws rm mc ms n := by
  have ok : ∀ w ∈ va_wsS own index y ws, w.before args s = true := fun w h => ht w (hT w h).1
  have hG : GoodIn Ts ws := fun w h => hT w (by unfold va_wsS; exact List.mem_append_right _ h)
  have hc : Cond.codeWith y bytes maxL ret hh ∈ ws := by rw [hw]; exact List.mem_cons_self
  refine ⟨⟨hrc, hrs, hR.1, hR.2, pay_in ht hG, hc⟩, ht _ (hG _ hc).1, ok _ (by simp [va_wsS]), ⟨hd.1, hd.2.1⟩, fun sig h => ?_, ok _ (by simp [va_wsS]), ok _ (by simp [va_wsS])⟩
  have h2 := hd.2.2
  rw [h] at h2
  exact (Option.some.inj h2).symm
theorem vx_callSW (X : Stand p l e R s m args below meth c T locs cells slots) (hexec : p.tables.exec = Jvm.exec) {own : String} {index : Nat} {y : MethodName} {bytes : ByteArray} {maxL : Nat} {ret : Option FieldType} {hh : List (Nat × Nat × Nat × Nat)}
    (hown : s.vm.findClass own = some m.cls) (hlink : (Cond.methodLink own index y).before args s = true) (hstat : (Cond.static y).before args s = true) (hinit : (Cond.initialized y.cls).before args s = true)
    (hcode : (Cond.codeWith y bytes maxL ret hh).before args s = true) (hy : y.cls ≠ "java/lang/invoke/MethodHandle" ∧ y.cls ≠ "java/lang/invoke/VarHandle")
    {W9 : Nat} {Pre : Pt → Array Value → Prop} {Post : Pt → Array Value → Option Value → Pt → Prop} (hK : Back l R p e below s args y 3 W9 Pre Post)
    {g : JFrame} (hg : g.method = m) (hsize : g.locals.size = c.maxLocals) {argsL rest : List Value} (hlen : ∀ sig, parseMethodDescriptor y.desc = some sig → argsL.length = sig.parameters.length)
    (hstack : g.stack = argsL.reverse ++ rest) (hW : 2 * g.monitorRoom + (rest.map fun v => v.category).sum ≤ W9) (hdg : decode c.code g.pc = .ok (.invokestatic index, 3))
    (hpre : ∀ vm₁, s.WarmedH vm₁ → Pre ⟨T.setVm vm₁, locs, cells, slots⟩ argsL.toArray) :
    ∃ (v : Option Value) (vm₁ : Vm) (B : Pt), s.WarmedH vm₁ ∧ Stand p l e R s m args below meth c B.U B.locs B.cells B.slots ∧ Post ⟨T.setVm vm₁, locs, cells, slots⟩ argsL.toArray v B ∧
      ∀ target, Steps p.tables e below (B.U.setTop { g with pc := g.pc + 3, stack := v.toList ++ rest }) target → Steps p.tables e below (T.setTop g) target := by
  obtain ⟨mk, methM, cM, hnamed, hmethM, -, -, -, -, -, -, hsigM⟩ := Cond.codeWith_spec hcode
  have hstatic : methM.isStatic = true := Cond.static_spec hnamed hmethM hstat
  obtain ⟨kP, hkP, -⟩ := className_of_methodNamed hnamed
  have hinitP : kP.init = .initialized := Cond.initialized_spec (findClass_of_methodNamed hnamed) hkP hinit
  obtain ⟨vm₁, X₁, hstep₁⟩ := X.invokestatic hexec hown hlink hnamed hmethM hstatic hkP hinitP hy (g := g) hg (argsL := argsL) (rest := rest) (hlen _ hsigM) hstack hdg
  obtain ⟨v, B, X', hpost, hsteps⟩ := hK m meth c ⟨T.setVm vm₁, locs, cells, slots⟩ { g with stack := rest } (.invokestatic index) mk argsL.toArray X₁ hg hsize hdg hW (X₁.named hnamed) (hpre vm₁ X₁.warmed)
  exact ⟨v, vm₁, B, X₁.warmed, X', hpost, fun target h => hstep₁ _ fun acts => by rw [doInvoke_state]; exact hsteps.trans h⟩
theorem vx_runSW {y : MethodName} {bytes cc : ByteArray} {maxL nL mc ms n index : Nat} {ret : Option FieldType} {hh : List (Nat × Nat × Nat × Nat)} {ws : List Cond} {rm : Room} {Pc : Array Value → State → Prop} {Qc : Array Value → State → Outcome → State → Prop} {free : Addr → Prop} {Ts : List Cond} {own : String} {As rest : List Value} {g : JFrame}
    (S : CallFix p m c cc nL s args Ts own) (hM : Met l y ws rm Pc Qc mc ms free) (cw : vx_CSW R s args own index y bytes maxL ret hh ws rm mc ms n) (hp : PreS s H Pc As)
    (hg : g.method = m) (hn : As.length = n) (hsize : g.locals.size = nL) (hstack : g.stack = As.reverse ++ rest) (hW : 2 * g.monitorRoom + (rest.map fun v => v.category).sum ≤ 8) (hdg : decode cc g.pc = .ok (.invokestatic index, 3)) (hf : cells + mc ≤ R.cells ∧ slots + ms ≤ R.slots) :
    va_Run p l e R s m args below meth c H locs cells slots mc ms g rest (Qc As.toArray) (free) := by
  obtain ⟨⟨hrc, hrs, hfr, hlo, hws, hcw⟩, hcode, hini, hy, hlen, hl, hstt⟩ := cw
  have hK : Back l R p e below s args y 3 8 (PreOf R mc ms Pc) (PostOf Qc mc ms free) := va_backW (hh := hh) (bytes := bytes) (maxL := maxL) (ret := ret) hM hp.1 hrc hrs hfr hlo hws hcw (fun a' U hW => word_at hW (Or.inl (by first | rfl | simp [Cond.onTables, Cond.keeps, Cond.steady])) hini)
  obtain ⟨hx, hb, hml, ho, -⟩ := S
  intro T hT X
  obtain ⟨v, vm₁, ⟨U', l2, c2, s2⟩, hW₁, X', ⟨g', mk, t, L, e1, e2, hq, h1, hL, h2, h3⟩, st⟩ := vx_callSW X hx (hh := hh) (bytes := bytes) (maxL := maxL) (ret := ret) ho hl hstt hini hcode hy hK hg (hsize.trans hml.symm) (argsL := As) (rest := rest) (fun sig h => hn.trans (hlen sig h)) hstack hW (by rw [hb]; exact hdg)
    (fun vm₁ hW₁ => ⟨hf.1, hf.2, hp.2 (T.setVm vm₁) hT hW₁⟩)
  dsimp only [Pt.U, Pt.locs, Pt.cells, Pt.slots] at X' e1 e2 h1 h2 h3 st
  subst h1; subst h2; subst h3
  exact ⟨v, (T.setVm vm₁).calling g' mk As.toArray, t, U', L, hT, X', hL, e1, e2, hq, st⟩
end VXS
/-! ===== END ===== -/
/-! ===== BEGIN methods with a table of their own: called by a name, returning or throwing ===== -/
section VXH
/-! vx_backW, vx_callVX, vx_callSX, vx_callVW, vx_runVW, vx_runVX, vx_runSX, vx_ofWH follow the same proofs as their sisters above (Free/Laws.lean, Shelf42/LK1.lean); vx_outP calls Shelf42/NT130.lean (outThrough). -/
section
variable {l : Launch} {R : Room} {p : Program} {e : Env} {below : List Frame} {s : State} {sargs : Array Value} {y : MethodName} {len W9 : Nat}
theorem vx_backW {ws : List Cond} {rm : Room} {Pc : Array Value → State → Prop} {Qc : Array Value → State → Outcome → State → Prop} {XC : String → State → State → Prop} {mc ms : Nat} {free : Addr → Prop} {bytes : ByteArray} {maxL : Nat} {ret : Option FieldType} {hh : List (Nat × Nat × Nat × Nat)}
    (hM : vx_Met l y ws rm Pc Qc XC mc ms free) (hblind : FrameBlind Pc) (hrc : rm.cells = mc) (hrs : rm.slots = ms)
    (hframes : rm.frames + 1 ≤ R.frames) (hlocals : W9 + (maxL + 11) + rm.locals ≤ R.locals)
    (hws : ∀ w ∈ ws, ∀ a' U, s.WarmedH U.vm → w.before a' U = true) (hcode : Cond.codeWith y bytes maxL ret hh ∈ ws) (hinit : ∀ a' U, s.WarmedH U.vm → (Cond.initialized y.cls).before a' U = true) :
    vx_Back l R p e below s sargs y len W9 (PreOf R mc ms Pc) (PostOf Qc mc ms free) (vx_Post XC mc ms free) := by
  intro m meth c A g ig mk a X hg hsize hdg hW hn hp
  have h1 : (headSpec ws rm).pre.before a A.U = true := atoms_intro fun w hw => hws w hw _ _ X.warmed
  have h2 : (Cond.codeWith y bytes maxL ret hh).before a A.U = true := hws _ hcode _ _ X.warmed
  have h3 : (Cond.initialized y.cls).before a A.U = true := hinit _ _ X.warmed
  have h4 : A.cells + (headSpec ws rm).room.cells ≤ R.cells := by rw [show (headSpec ws rm).room.cells = mc from hrc]; exact hp.1
  have h5 : A.slots + (headSpec ws rm).room.slots ≤ R.slots := by rw [show (headSpec ws rm).room.slots = ms from hrs]; exact hp.2.1
  have hPc : Pc a (A.U.calling g mk a) := hblind _ _ _ _ hp.2.2
  obtain ⟨U, Ls, c0, s0⟩ := A
  dsimp only [Pt.U, Pt.locs, Pt.cells, Pt.slots] at h1 h2 h3 h4 h5 X hn hPc ⊢
  obtain ⟨m9, methY, cY, hn9, hmY, hcY, -, hlY, -⟩ := Cond.codeWith_spec h2
  cases Option.some.inj (hn9.symm.trans hn)
  obtain ⟨kY, hkY, -⟩ := className_of_methodNamed hn
  have hinitY : kY.init = .initialized := Cond.initialized_spec (findClass_of_methodNamed hn) hkY h3
  have h : At U g.method c below := by rw [hg]; exact X.here
  have hlocals9 : W9 + (maxL + 11) + (headSpec ws rm).room.locals ≤ R.locals := hlocals
  have happ : (headSpec ws rm).appliesLoose y e.platform (U.calling g mk a) = true :=
    Spec.appliesLoose_calling (g := g) h hdg hn hkY hinitY
      (X.room_calling (g := g) (R' := (headSpec ws rm).room) hsize hmY hcY hframes (by rw [hlY]; omega) h4 h5) h1
  obtain ⟨mid, hmid⟩ := h.above
  have hfr : (U.setTop g).frames = (.java g :: mid) ++ below := by rw [State.frames_setTop' g h.top, hmid]; rfl
  obtain ⟨o, s₂, hsteps, -, hend, hq⟩ := Steps.callFree hM p X.admits X.cas X.clock (acts := []) hfr happ hPc trivial
  have hq' : vx_Q Qc XC mc ms free a (U.calling g mk a) o s₂ := hq
  rw [State.frames_setTop' g h.top] at hend
  obtain ⟨g₀, hg0⟩ := Option.isSome_iff_exists.mp h.top
  obtain ⟨r, hr⟩ := State.topJava?_eq_some.mp hg0
  have hr' : (({ U with heap := s₂.heap, slotsUsed := s₂.slotsUsed } : State).setVm s₂.vm).frames = .java g₀ :: r := hr
  rcases hq' with ⟨hqc, L, hfe, hL⟩ | ⟨q, rfl, E, ce, L, hx, hce, hcv, hcl, hW₂, hsm, hL⟩
  · obtain ⟨⟨v, rfl⟩, hW₂, e2, q2, q3, q4, q5, q6⟩ := id hfe
    have e3 : s₂ = ({ (U.calling g mk a).setFrames s₂.frames with heap := s₂.heap, slotsUsed := s₂.slotsUsed } : State).setVm s₂.vm := by
      have : s₂ = ({ s₂ with vm := (U.calling g mk a).vm } : State).setVm s₂.vm := rfl
      rw [e2] at this
      exact this
    obtain ⟨c₂, i₂, len₂, hc₂, hd₂, hf₂⟩ := hend
    have hW' : U.WarmedH s₂.vm := hW₂
    have hcc : c₂ = c := by
      have h1 : s₂.code? g.method = U.code? g.method := by
        rw [State.code?_eq, State.code?_eq, hW'.alike.method?]
      exact Option.some.inj (hc₂.symm.trans (h1.trans h.code))
    subst hcc
    have hlen : len₂ = len := by rw [hdg] at hd₂; cases hd₂; rfl
    subst hlen
    have hs₂ : s₂ = (({ U with heap := s₂.heap, slotsUsed := s₂.slotsUsed } : State).setVm s₂.vm).setTop { g with pc := g.pc + len₂, stack := v.toList ++ g.stack } := by
      refine e3.trans ?_
      rw [hf₂, State.calling_eq h.top, State.setFrames_setFrames, State.setTop_of_frames _ hr', hr]
      rfl
    have hsame : U.sameButNew ({ U with heap := s₂.heap, slotsUsed := s₂.slotsUsed } : State) L mc ms := by
      refine ⟨?_, q2, q3, q4, q5, q6⟩
      obtain ⟨t, ht, -⟩ := State.frames_cons hr
      show ({ U with heap := s₂.heap, slotsUsed := s₂.slotsUsed } : State) = { U.setFrames U.frames with heap := s₂.heap, slotsUsed := s₂.slotsUsed }
      rw [State.setFrames_self ht]
    subst hg
    refine Or.inl ⟨v, ⟨(({ U with heap := s₂.heap, slotsUsed := s₂.slotsUsed } : State).setVm s₂.vm), Ls ++ L, c0 + mc, s0 + ms⟩,
      ⟨X.admits, X.cas, X.clock, X.frames, X.room, X.hears, X.method, X.code, (X.here.setHeapUsed s₂.heap s₂.slotsUsed).setVm hW'.alike, X.tail, State.WarmedH.trans X.warmed hW', X.limits, X.bytes, X.same.trans (hsame.setVm s.vm)⟩,
      ⟨g, mk, s₂, L, rfl, rfl, hqc, rfl, hL, rfl, rfl⟩, ?_⟩
    show Steps p.tables e below _ ((({ U with heap := s₂.heap, slotsUsed := s₂.slotsUsed } : State).setVm s₂.vm).setTop { g with pc := g.pc + len₂, stack := v.toList ++ g.stack })
    rw [← hs₂]
    exact hsteps
  · obtain ⟨e2, q2, q3, q4, q5, q6⟩ := id hsm
    have e3 : s₂ = ({ (U.calling g mk a).setFrames s₂.frames with heap := s₂.heap, slotsUsed := s₂.slotsUsed } : State).setVm s₂.vm := by
      have : s₂ = ({ s₂ with vm := (U.calling g mk a).vm } : State).setVm s₂.vm := rfl
      rw [e2] at this
      exact this
    have hf₂ : s₂.frames = .throwing q :: .java g :: U.frames.tail := hend
    have hW' : U.WarmedH s₂.vm := hW₂
    have hs₂ : s₂ = ((({ U with heap := s₂.heap, slotsUsed := s₂.slotsUsed } : State).setVm s₂.vm).setTop g).pushFrame (.throwing q) := by
      refine e3.trans ?_
      rw [hf₂, State.calling_eq h.top, State.setFrames_setFrames, State.pushFrame, State.frames_setTop _ hr', State.setTop_of_frames _ hr', State.setFrames_setFrames, hr]
      rfl
    have hsame : U.sameButNew ({ U with heap := s₂.heap, slotsUsed := s₂.slotsUsed } : State) L mc ms := by
      refine ⟨?_, q2, q3, q4, q5, q6⟩
      obtain ⟨t, ht, -⟩ := State.frames_cons hr
      show ({ U with heap := s₂.heap, slotsUsed := s₂.slotsUsed } : State) = { U.setFrames U.frames with heap := s₂.heap, slotsUsed := s₂.slotsUsed }
      rw [State.setFrames_self ht]
    subst hg
    refine Or.inr ⟨q, ⟨(({ U with heap := s₂.heap, slotsUsed := s₂.slotsUsed } : State).setVm s₂.vm), Ls ++ L, c0 + mc, s0 + ms⟩,
      ⟨X.admits, X.cas, X.clock, X.frames, X.room, X.hears, X.method, X.code, (X.here.setHeapUsed s₂.heap s₂.slotsUsed).setVm hW'.alike, X.tail, State.WarmedH.trans X.warmed hW', X.limits, X.bytes, X.same.trans (hsame.setVm s.vm)⟩,
      ⟨g, mk, s₂, L, E, ce, rfl, rfl, hx, hce, hcv, hcl, rfl, hL, rfl, rfl⟩, ?_⟩
    show Steps p.tables e below _ (((({ U with heap := s₂.heap, slotsUsed := s₂.slotsUsed } : State).setVm s₂.vm).setTop g).pushFrame (.throwing q))
    rw [← hs₂]
    exact hsteps
end
variable {p : Program} {l : Launch} {e : Env} {R : Room} {s : State} {m : MethodId} {args : Array Value} {below : List Frame} {meth : Method} {c : Code} {T : State} {H : Heap} {locs : List Loc} {cells slots : Nat}
theorem vx_callVX (X : Stand p l e R s m args below meth c T locs cells slots) (hexec : p.tables.exec = Jvm.exec) {own C : String} {index : Nat} {y : MethodName} {bytes : ByteArray} {maxL : Nat} {ret : Option FieldType} {hh : List (Nat × Nat × Nat × Nat)}
    (hown : s.vm.findClass own = some m.cls) (hlink : (Cond.methodLink own index y).before args s = true) (hinst : (Cond.instanceMethod y).before args s = true) (hsel : (Cond.selects C y y).before args s = true)
    (hcode : (Cond.codeWith y bytes maxL ret hh).before args s = true) (hy : y.cls ≠ "java/lang/invoke/MethodHandle" ∧ y.cls ≠ "java/lang/invoke/VarHandle")
    {W9 : Nat} {Pre : Pt → Array Value → Prop} {Post : Pt → Array Value → Option Value → Pt → Prop} {PostX : Pt → Array Value → Addr → Pt → Prop} (hK : vx_Back l R p e below s args y 3 W9 Pre Post PostX)
    {b : Addr} {cellB : Cell} (hcell : T.heap[b]? = some cellB) (hobj : cellB.vm.isStatics = false) (hcls : s.vm.findClass C = some cellB.cls)
    {g : JFrame} (hg : g.method = m) (hsize : g.locals.size = c.maxLocals) {argsL rest : List Value} (hlen : ∀ sig, parseMethodDescriptor y.desc = some sig → argsL.length = sig.parameters.length)
    (hstack : g.stack = argsL.reverse ++ .ref b :: rest) (hW : 2 * g.monitorRoom + (rest.map fun v => v.category).sum ≤ W9) (hdg : decode c.code g.pc = .ok (.invokevirtual index, 3))
    (hpre : ∀ vm₁, s.WarmedH vm₁ → Pre ⟨T.setVm vm₁, locs, cells, slots⟩ (Value.ref b :: argsL).toArray) :
    (∃ (v : Option Value) (vm₁ : Vm) (B : Pt), s.WarmedH vm₁ ∧ Stand p l e R s m args below meth c B.U B.locs B.cells B.slots ∧ Post ⟨T.setVm vm₁, locs, cells, slots⟩ (Value.ref b :: argsL).toArray v B ∧
      ∀ target, Steps p.tables e below (B.U.setTop { g with pc := g.pc + 3, stack := v.toList ++ rest }) target → Steps p.tables e below (T.setTop g) target) ∨
    (∃ (q : Addr) (vm₁ : Vm) (B : Pt), s.WarmedH vm₁ ∧ Stand p l e R s m args below meth c B.U B.locs B.cells B.slots ∧ PostX ⟨T.setVm vm₁, locs, cells, slots⟩ (Value.ref b :: argsL).toArray q B ∧
      Steps p.tables e below (T.setTop g) ((B.U.setTop { g with stack := rest }).pushFrame (.throwing q))) := by
  obtain ⟨mk, methM, hnamed, hmethM, hstM, habM⟩ := Cond.instanceMethod_spec hinst
  obtain ⟨m8, methM', cM, hn8, hmethM', -, -, -, -, -, -, hsigM⟩ := Cond.codeWith_spec hcode
  cases Option.some.inj (hn8.symm.trans hnamed)
  cases hmethM.symm.trans hmethM'
  obtain ⟨c2, r2, m2, q1, q2, q3, q4, kP, hkP, hkPi⟩ := Cond.selects_spec hsel
  cases hcls.symm.trans q1
  cases (State.methodFound?_of_named hnamed hy).symm.trans q2
  cases hnamed.symm.trans q3
  have hselP : selectMethod e.platform s.vm cellB.cls mk = .method mk := by rw [Launch.admits_selectMethod X.admits]; exact q4
  obtain ⟨vm₁, X₁, hstep₁⟩ := X.invokevirtual hexec hown hlink hnamed hmethM hstM hkP hkPi hy (a := b) (cell := cellB) hcell
    (fun z h => by rw [h] at hobj; cases hobj) hselP hmethM habM hkP hkPi (g := g) hg (argsL := argsL) (rest := rest) (hlen _ hsigM) hstack hdg
  rcases hK m meth c ⟨T.setVm vm₁, locs, cells, slots⟩ { g with stack := rest } (.invokevirtual index) mk (Value.ref b :: argsL).toArray X₁ hg hsize hdg hW (X₁.named hnamed) (hpre vm₁ X₁.warmed) with ⟨v, B, X', hpost, hsteps⟩ | ⟨q, B, X', hpost, hsteps⟩
  · exact Or.inl ⟨v, vm₁, B, X₁.warmed, X', hpost, fun target h => hstep₁ _ fun acts => by rw [doInvoke_state]; exact hsteps.trans h⟩
  · exact Or.inr ⟨q, vm₁, B, X₁.warmed, X', hpost, hstep₁ _ fun acts => by rw [doInvoke_state]; exact hsteps⟩
theorem vx_callSX (X : Stand p l e R s m args below meth c T locs cells slots) (hexec : p.tables.exec = Jvm.exec) {own : String} {index : Nat} {y : MethodName} {bytes : ByteArray} {maxL : Nat} {ret : Option FieldType} {hh : List (Nat × Nat × Nat × Nat)}
    (hown : s.vm.findClass own = some m.cls) (hlink : (Cond.methodLink own index y).before args s = true) (hstat : (Cond.static y).before args s = true) (hinit : (Cond.initialized y.cls).before args s = true)
    (hcode : (Cond.codeWith y bytes maxL ret hh).before args s = true) (hy : y.cls ≠ "java/lang/invoke/MethodHandle" ∧ y.cls ≠ "java/lang/invoke/VarHandle")
    {W9 : Nat} {Pre : Pt → Array Value → Prop} {Post : Pt → Array Value → Option Value → Pt → Prop} {PostX : Pt → Array Value → Addr → Pt → Prop} (hK : vx_Back l R p e below s args y 3 W9 Pre Post PostX)
    {g : JFrame} (hg : g.method = m) (hsize : g.locals.size = c.maxLocals) {argsL rest : List Value} (hlen : ∀ sig, parseMethodDescriptor y.desc = some sig → argsL.length = sig.parameters.length)
    (hstack : g.stack = argsL.reverse ++ rest) (hW : 2 * g.monitorRoom + (rest.map fun v => v.category).sum ≤ W9) (hdg : decode c.code g.pc = .ok (.invokestatic index, 3))
    (hpre : ∀ vm₁, s.WarmedH vm₁ → Pre ⟨T.setVm vm₁, locs, cells, slots⟩ argsL.toArray) :
    (∃ (v : Option Value) (vm₁ : Vm) (B : Pt), s.WarmedH vm₁ ∧ Stand p l e R s m args below meth c B.U B.locs B.cells B.slots ∧ Post ⟨T.setVm vm₁, locs, cells, slots⟩ argsL.toArray v B ∧
      ∀ target, Steps p.tables e below (B.U.setTop { g with pc := g.pc + 3, stack := v.toList ++ rest }) target → Steps p.tables e below (T.setTop g) target) ∨
    (∃ (q : Addr) (vm₁ : Vm) (B : Pt), s.WarmedH vm₁ ∧ Stand p l e R s m args below meth c B.U B.locs B.cells B.slots ∧ PostX ⟨T.setVm vm₁, locs, cells, slots⟩ argsL.toArray q B ∧
      Steps p.tables e below (T.setTop g) ((B.U.setTop { g with stack := rest }).pushFrame (.throwing q))) := by
  obtain ⟨mk, methM, cM, hnamed, hmethM, -, -, -, -, -, -, hsigM⟩ := Cond.codeWith_spec hcode
  have hstatic : methM.isStatic = true := Cond.static_spec hnamed hmethM hstat
  obtain ⟨kP, hkP, -⟩ := className_of_methodNamed hnamed
  have hinitP : kP.init = .initialized := Cond.initialized_spec (findClass_of_methodNamed hnamed) hkP hinit
  obtain ⟨vm₁, X₁, hstep₁⟩ := X.invokestatic hexec hown hlink hnamed hmethM hstatic hkP hinitP hy (g := g) hg (argsL := argsL) (rest := rest) (hlen _ hsigM) hstack hdg
  rcases hK m meth c ⟨T.setVm vm₁, locs, cells, slots⟩ { g with stack := rest } (.invokestatic index) mk argsL.toArray X₁ hg hsize hdg hW (X₁.named hnamed) (hpre vm₁ X₁.warmed) with ⟨v, B, X', hpost, hsteps⟩ | ⟨q, B, X', hpost, hsteps⟩
  · exact Or.inl ⟨v, vm₁, B, X₁.warmed, X', hpost, fun target h => hstep₁ _ fun acts => by rw [doInvoke_state]; exact hsteps.trans h⟩
  · exact Or.inr ⟨q, vm₁, B, X₁.warmed, X', hpost, hstep₁ _ fun acts => by rw [doInvoke_state]; exact hsteps⟩
theorem vx_callVW (X : Stand p l e R s m args below meth c T locs cells slots) (hexec : p.tables.exec = Jvm.exec) {own C : String} {index : Nat} {y : MethodName} {bytes : ByteArray} {maxL : Nat} {ret : Option FieldType} {hh : List (Nat × Nat × Nat × Nat)}
    (hown : s.vm.findClass own = some m.cls) (hlink : (Cond.methodLink own index y).before args s = true) (hinst : (Cond.instanceMethod y).before args s = true) (hsel : (Cond.selects C y y).before args s = true)
    (hcode : (Cond.codeWith y bytes maxL ret hh).before args s = true) (hy : y.cls ≠ "java/lang/invoke/MethodHandle" ∧ y.cls ≠ "java/lang/invoke/VarHandle")
    {W9 : Nat} {Pre : Pt → Array Value → Prop} {Post : Pt → Array Value → Option Value → Pt → Prop} (hK : Back l R p e below s args y 3 W9 Pre Post)
    {b : Addr} {cellB : Cell} (hcell : T.heap[b]? = some cellB) (hobj : cellB.vm.isStatics = false) (hcls : s.vm.findClass C = some cellB.cls)
    {g : JFrame} (hg : g.method = m) (hsize : g.locals.size = c.maxLocals) {argsL rest : List Value} (hlen : ∀ sig, parseMethodDescriptor y.desc = some sig → argsL.length = sig.parameters.length)
    (hstack : g.stack = argsL.reverse ++ .ref b :: rest) (hW : 2 * g.monitorRoom + (rest.map fun v => v.category).sum ≤ W9) (hdg : decode c.code g.pc = .ok (.invokevirtual index, 3))
    (hpre : ∀ vm₁, s.WarmedH vm₁ → Pre ⟨T.setVm vm₁, locs, cells, slots⟩ (Value.ref b :: argsL).toArray) :
    ∃ (v : Option Value) (vm₁ : Vm) (B : Pt), s.WarmedH vm₁ ∧ Stand p l e R s m args below meth c B.U B.locs B.cells B.slots ∧ Post ⟨T.setVm vm₁, locs, cells, slots⟩ (Value.ref b :: argsL).toArray v B ∧
      ∀ target, Steps p.tables e below (B.U.setTop { g with pc := g.pc + 3, stack := v.toList ++ rest }) target → Steps p.tables e below (T.setTop g) target := by
  obtain ⟨mk, methM, hnamed, hmethM, hstM, habM⟩ := Cond.instanceMethod_spec hinst
  obtain ⟨m8, methM', cM, hn8, hmethM', -, -, -, -, -, -, hsigM⟩ := Cond.codeWith_spec hcode
  cases Option.some.inj (hn8.symm.trans hnamed)
  cases hmethM.symm.trans hmethM'
  obtain ⟨c2, r2, m2, q1, q2, q3, q4, kP, hkP, hkPi⟩ := Cond.selects_spec hsel
  cases hcls.symm.trans q1
  cases (State.methodFound?_of_named hnamed hy).symm.trans q2
  cases hnamed.symm.trans q3
  have hselP : selectMethod e.platform s.vm cellB.cls mk = .method mk := by rw [Launch.admits_selectMethod X.admits]; exact q4
  obtain ⟨vm₁, X₁, hstep₁⟩ := X.invokevirtual hexec hown hlink hnamed hmethM hstM hkP hkPi hy (a := b) (cell := cellB) hcell
    (fun z h => by rw [h] at hobj; cases hobj) hselP hmethM habM hkP hkPi (g := g) hg (argsL := argsL) (rest := rest) (hlen _ hsigM) hstack hdg
  obtain ⟨v, B, X', hpost, hsteps⟩ := hK m meth c ⟨T.setVm vm₁, locs, cells, slots⟩ { g with stack := rest } (.invokevirtual index) mk (Value.ref b :: argsL).toArray X₁ hg hsize hdg hW (X₁.named hnamed) (hpre vm₁ X₁.warmed)
  exact ⟨v, vm₁, B, X₁.warmed, X', hpost, fun target h => hstep₁ _ fun acts => by rw [doInvoke_state]; exact hsteps.trans h⟩
abbrev vx_CVW (R : Room) (s : State) (args : Array Value) (own C : String) (index : Nat) (y : MethodName) (bytes : ByteArray) (maxL : Nat) (ret : Option FieldType) (hh : List (Nat × Nat × Nat × Nat)) (ws : List Cond) (rm : Room) (mc ms n : Nat) : Prop :=
  (rm.cells = mc ∧ rm.slots = ms ∧ rm.frames + 1 ≤ R.frames ∧ 8 + (maxL + 11) + rm.locals ≤ R.locals ∧ (∀ w ∈ ws, ∀ (a' : Array Value) (U : State), s.WarmedH U.vm → w.before a' U = true) ∧ Cond.codeWith y bytes maxL ret hh ∈ ws) ∧
  (Cond.codeWith y bytes maxL ret hh).before args s = true ∧ (Cond.initialized y.cls).before args s = true ∧ (y.cls ≠ "java/lang/invoke/MethodHandle" ∧ y.cls ≠ "java/lang/invoke/VarHandle") ∧
  (∀ sig, parseMethodDescriptor y.desc = some sig → n = sig.parameters.length) ∧ (Cond.methodLink own index y).before args s = true ∧ (Cond.instanceMethod y).before args s = true ∧ (Cond.selects C y y).before args s = true
theorem vx_cwVW {own C : String} {index maxL mc ms : Nat} {y : MethodName} {bytes : ByteArray} {ret : Option FieldType} {hh : List (Nat × Nat × Nat × Nat)} {Ts ws ws' : List Cond} {rm : Room} (n : Nat) (ht : ∀ w ∈ Ts, w.before args s = true) (hT : GoodIn Ts (wsV own index C y ws)) (hw : ws = Cond.codeWith y bytes maxL ret hh :: ws') (hrc : rm.cells = mc) (hrs : rm.slots = ms)
    (hd : y.cls = C ∧ y.cls ≠ "java/lang/invoke/MethodHandle" ∧ y.cls ≠ "java/lang/invoke/VarHandle" ∧ (parseMethodDescriptor y.desc).map (fun d => d.parameters.length) = some n) (hR : rm.frames + 1 ≤ R.frames ∧ 8 + (maxL + 11) + rm.locals ≤ R.locals) :
    vx_CVW R s args own C index y bytes maxL ret hh ws rm mc ms n := by
  obtain ⟨hC, hd⟩ := hd
  subst hC
  have ok : ∀ w ∈ wsV own index y.cls y ws, w.before args s = true := fun w h => ht w (hT w h).1
  have hG : GoodIn Ts ws := fun w h => hT w (by unfold wsV; exact List.mem_append_right _ h)
  have hc : Cond.codeWith y bytes maxL ret hh ∈ ws := by rw [hw]; exact List.mem_cons_self
  refine ⟨⟨hrc, hrs, hR.1, hR.2, pay_in ht hG, hc⟩, ht _ (hG _ hc).1, ok _ (by simp [wsV]), ⟨hd.1, hd.2.1⟩, fun sig h => ?_, ok _ (by simp [wsV]), ok _ (by simp [wsV]), ok _ (by simp [wsV])⟩
  have h2 := hd.2.2
  rw [h] at h2
  exact (Option.some.inj h2).symm
theorem vx_runVW {y : MethodName} {bytes cc : ByteArray} {maxL nL mc ms n index : Nat} {ret : Option FieldType} {hh : List (Nat × Nat × Nat × Nat)} {ws : List Cond} {rm : Room} {Pc : Array Value → State → Prop} {Qc : Array Value → State → Outcome → State → Prop} {free : Addr → Prop} {Ts : List Cond} {own C : String} {b : Addr} {As rest : List Value} {g : JFrame}
    (S : CallFix p m c cc nL s args Ts own) (hM : Met l y ws rm Pc Qc mc ms free) (cw : vx_CVW R s args own C index y bytes maxL ret hh ws rm mc ms n) (hp : PreV s H C b Pc As)
    (hg : g.method = m) (hn : As.length = n) (hsize : g.locals.size = nL) (hstack : g.stack = As.reverse ++ .ref b :: rest) (hW : 2 * g.monitorRoom + (rest.map fun v => v.category).sum ≤ 8) (hdg : decode cc g.pc = .ok (.invokevirtual index, 3)) (hf : cells + mc ≤ R.cells ∧ slots + ms ≤ R.slots) :
    va_Run p l e R s m args below meth c H locs cells slots mc ms g rest (Qc (Value.ref b :: As).toArray) free := by
  obtain ⟨⟨hrc, hrs, hfr, hlo, hws, hcw⟩, hcode, hini, hy, hlen, hl, hin, hse⟩ := cw
  have hK : Back l R p e below s args y 3 8 (PreOf R mc ms Pc) (PostOf Qc mc ms free) := va_backW (hh := hh) (bytes := bytes) (maxL := maxL) (ret := ret) hM hp.1 hrc hrs hfr hlo hws hcw (fun a' U hW => word_at hW (Or.inl (by first | rfl | simp [Cond.onTables, Cond.keeps, Cond.steady])) hini)
  obtain ⟨hx, hb, hml, ho, -⟩ := S
  obtain ⟨-, ⟨cellB, hcB, hoB, hclB⟩, hPc⟩ := hp
  intro T hT X
  obtain ⟨v, vm₁, ⟨U', l2, c2, s2⟩, hW₁, X', ⟨g', mk, t, L, e1, e2, hq, h1, hL, h2, h3⟩, st⟩ := vx_callVW X hx (C := C) (hh := hh) (bytes := bytes) (maxL := maxL) (ret := ret) ho hl hin hse hcode hy hK (by rw [hT]; exact hcB) hoB hclB hg (hsize.trans hml.symm) (argsL := As) (rest := rest) (fun sig h => hn.trans (hlen sig h)) hstack hW (by rw [hb]; exact hdg)
    (fun vm₁ hW₁ => ⟨hf.1, hf.2, hPc (T.setVm vm₁) hT hW₁⟩)
  dsimp only [Pt.U, Pt.locs, Pt.cells, Pt.slots] at X' e1 e2 h1 h2 h3 st
  subst h1; subst h2; subst h3
  exact ⟨v, (T.setVm vm₁).calling g' mk (Value.ref b :: As).toArray, t, U', L, hT, X', hL, e1, e2, hq, st⟩
section
variable {y : MethodName} {bytes cc : ByteArray} {maxL nL mc ms n index : Nat} {ret : Option FieldType} {ws : List Cond} {rm : Room} {Pc : Array Value → State → Prop} {Qc : Array Value → State → Outcome → State → Prop} {XC : String → State → State → Prop} {free : Addr → Prop} {Ts : List Cond} {own C : String} {b : Addr} {As rest : List Value} {g : JFrame}
theorem vx_runVX {hh : List (Nat × Nat × Nat × Nat)} (S : CallFix p m c cc nL s args Ts own) (hM : vx_Met l y ws rm Pc Qc XC mc ms free) (cw : vx_CVW R s args own C index y bytes maxL ret hh ws rm mc ms n) (hp : PreV s H C b Pc As)
    (hg : g.method = m) (hn : As.length = n) (hsize : g.locals.size = nL) (hstack : g.stack = As.reverse ++ .ref b :: rest) (hW : 2 * g.monitorRoom + (rest.map fun v => v.category).sum ≤ 8) (hdg : decode cc g.pc = .ok (.invokevirtual index, 3)) (hf : cells + mc ≤ R.cells ∧ slots + ms ≤ R.slots) :
    vx_Run p l e R s m args below meth c H locs cells slots mc ms g rest (Qc (Value.ref b :: As).toArray) XC free := by
  obtain ⟨⟨hrc, hrs, hfr, hlo, hws, hcw⟩, hcode, hini, hy, hlen, hl, hin, hse⟩ := cw
  have hK : vx_Back l R p e below s args y 3 8 (PreOf R mc ms Pc) (PostOf Qc mc ms free) (vx_Post XC mc ms free) := vx_backW (hh := hh) (bytes := bytes) (maxL := maxL) (ret := ret) hM hp.1 hrc hrs hfr hlo hws hcw (fun a' U hW => word_at hW (Or.inl (by first | rfl | simp [Cond.onTables, Cond.keeps, Cond.steady])) hini)
  obtain ⟨hx, hb, hml, ho, -⟩ := S
  obtain ⟨-, ⟨cellB, hcB, hoB, hclB⟩, hPc⟩ := hp
  intro T hT X
  rcases vx_callVX X hx (C := C) (hh := hh) (bytes := bytes) (maxL := maxL) (ret := ret) ho hl hin hse hcode hy hK (by rw [hT]; exact hcB) hoB hclB hg (hsize.trans hml.symm) (argsL := As) (rest := rest) (fun sig h => hn.trans (hlen sig h)) hstack hW (by rw [hb]; exact hdg)
    (fun vm₁ hW₁ => ⟨hf.1, hf.2, hPc (T.setVm vm₁) hT hW₁⟩) with ⟨v, vm₁, ⟨U', l2, c2, s2⟩, hW₁, X', ⟨g', mk, t, L, e1, e2, hq, h1, hL, h2, h3⟩, st⟩ | ⟨q, vm₁, ⟨U', l2, c2, s2⟩, hW₁, X', ⟨g', mk, t, L, E, ce, e1, e2, hq, hce, hcv, hcl, h1, hL, h2, h3⟩, st⟩
  · dsimp only [Pt.U, Pt.locs, Pt.cells, Pt.slots] at X' e1 e2 h1 h2 h3 st
    subst h1; subst h2; subst h3
    exact Or.inl ⟨v, (T.setVm vm₁).calling g' mk (Value.ref b :: As).toArray, t, U', L, hT, X', hL, e1, e2, hq, st⟩
  · dsimp only [Pt.U, Pt.locs, Pt.cells, Pt.slots] at X' e1 e2 h1 h2 h3 st hcl
    subst h1; subst h2; subst h3
    exact Or.inr ⟨q, (T.setVm vm₁).calling g' mk (Value.ref b :: As).toArray, t, U', L, E, ce, hT, X', hL, e1, e2, hq, hce, hcv, vx_cls hW₁ hcl, st⟩
theorem vx_runSX {hh : List (Nat × Nat × Nat × Nat)} (S : CallFix p m c cc nL s args Ts own) (hM : vx_Met l y ws rm Pc Qc XC mc ms free) (cw : vx_CSW R s args own index y bytes maxL ret hh ws rm mc ms n) (hp : PreS s H Pc As)
    (hg : g.method = m) (hn : As.length = n) (hsize : g.locals.size = nL) (hstack : g.stack = As.reverse ++ rest) (hW : 2 * g.monitorRoom + (rest.map fun v => v.category).sum ≤ 8) (hdg : decode cc g.pc = .ok (.invokestatic index, 3)) (hf : cells + mc ≤ R.cells ∧ slots + ms ≤ R.slots) :
    vx_Run p l e R s m args below meth c H locs cells slots mc ms g rest (Qc As.toArray) XC free := by
  obtain ⟨⟨hrc, hrs, hfr, hlo, hws, hcw⟩, hcode, hini, hy, hlen, hl, hstt⟩ := cw
  have hK : vx_Back l R p e below s args y 3 8 (PreOf R mc ms Pc) (PostOf Qc mc ms free) (vx_Post XC mc ms free) := vx_backW (hh := hh) (bytes := bytes) (maxL := maxL) (ret := ret) hM hp.1 hrc hrs hfr hlo hws hcw (fun a' U hW => word_at hW (Or.inl (by first | rfl | simp [Cond.onTables, Cond.keeps, Cond.steady])) hini)
  obtain ⟨hx, hb, hml, ho, -⟩ := S
  intro T hT X
  rcases vx_callSX X hx (hh := hh) (bytes := bytes) (maxL := maxL) (ret := ret) ho hl hstt hini hcode hy hK hg (hsize.trans hml.symm) (argsL := As) (rest := rest) (fun sig h => hn.trans (hlen sig h)) hstack hW (by rw [hb]; exact hdg)
    (fun vm₁ hW₁ => ⟨hf.1, hf.2, hp.2 (T.setVm vm₁) hT hW₁⟩) with ⟨v, vm₁, ⟨U', l2, c2, s2⟩, hW₁, X', ⟨g', mk, t, L, e1, e2, hq, h1, hL, h2, h3⟩, st⟩ | ⟨q, vm₁, ⟨U', l2, c2, s2⟩, hW₁, X', ⟨g', mk, t, L, E, ce, e1, e2, hq, hce, hcv, hcl, h1, hL, h2, h3⟩, st⟩
  · dsimp only [Pt.U, Pt.locs, Pt.cells, Pt.slots] at X' e1 e2 h1 h2 h3 st
    subst h1; subst h2; subst h3
    exact Or.inl ⟨v, (T.setVm vm₁).calling g' mk As.toArray, t, U', L, hT, X', hL, e1, e2, hq, st⟩
  · dsimp only [Pt.U, Pt.locs, Pt.cells, Pt.slots] at X' e1 e2 h1 h2 h3 st hcl
    subst h1; subst h2; subst h3
    exact Or.inr ⟨q, (T.setVm vm₁).calling g' mk As.toArray, t, U', L, E, ce, hT, X', hL, e1, e2, hq, hce, hcv, vx_cls hW₁ hcl, st⟩
end
end VXH
theorem vx_ofWH {l : Launch} {y : MethodName} {ws ws' : List Cond} {rm : Room} {Pc : Array Value → State → Prop} {Qc : Array Value → State → Outcome → State → Prop} {XC : String → State → State → Prop} {mc ms : Nat} {free : Addr → Prop} {cc : ByteArray} {maxL : Nat} {ret : Option FieldType} {hh : List (Nat × Nat × Nat × Nat)}
    (hy : plainName y.cls = true) (hw : ws = Cond.codeWith y cc maxL ret hh :: ws')
    (body : ∀ p e s m args below meth c s₁, BodyLoose p l y (headSpec ws rm) cc maxL ret e s m args below meth c s₁ → c.maxLocals = maxL → Pc args s →
      W p l e (headSpec ws rm).room s m args below meth c s.heap [] 0 0 (vx_MQ below Qc XC args s mc ms free) (entryFrame m args maxL)) : vx_Met l y ws rm Pc Qc XC mc ms free := by
  refine MetFree.of_bodyS (code := cc) (maxLocals := maxL) (ret := ret) hy ?_ ?_
  · intro args s m h hn
    obtain ⟨m9, meth, c, hn9, h1, h2, h3, h4, -, h5, h6, -⟩ := Cond.codeWith_spec (atoms_spec (ws := ws) h _ (by rw [hw]; exact List.mem_cons_self))
    cases hn.symm.trans hn9
    exact ⟨meth, c, h1, h2, h3, h4, h5, h6⟩
  · intro p e s m args below meth c s₁ B hml hP _
    have hh0 : s₁.heap = s.heap := by rw [B.state]; rfl
    obtain ⟨t, a1, o, b1, b2, b3⟩ := body p e s m args below meth c s₁ B hml hP s₁ hh0 (Stand.of_body B)
    exact ⟨t, o, a1, b1, b2, b3⟩
/-! ===== END ===== -/
/-! ===== BEGIN printed: names, fields, word lists, decode rows ===== -/
def RX0 : String := "ChunkShelf$Piece"
def TX0 : u_T := fun k => match k with
  | 0 => ("ChunkShelf$Piece", "at", "I", true)
  | 1 => ("ChunkShelf$Piece", "cells", "I", false)
  | 2 => ("ChunkShelf$Piece", "isFree", "Z", false)
  | 3 => ("ChunkShelf$Piece", "since", "J", false)
  | 4 => ("ChunkShelf$Piece", "behind", "LChunkShelf$Piece;", false)
  | 5 => ("ChunkShelf$Piece", "older", "LChunkShelf$Piece;", false)
  | _ => ("ChunkShelf$Piece", "awaited", "Z", false)
def tyX0 : Nat → FieldType := fun k => match k with
  | 0 => .int
  | 1 => .int
  | 2 => .boolean
  | 3 => .long
  | 4 => .object "ChunkShelf$Piece"
  | 5 => .object "ChunkShelf$Piece"
  | _ => .boolean
theorem nmX0 : ∀ a, a < 7 → ∀ b, b < 7 → a ≠ b → (TX0 a).2.1 ≠ (TX0 b).2.1 := by decide +kernel
theorem tyX0_ok : ∀ k, k < 7 → parseFieldDescriptor (TX0 k).2.2.1 = some (tyX0 k) := by decide +kernel
abbrev cX0_init : ByteArray := prog_2_method_1_code
def yX0_init : MethodName := ⟨RX0, "<init>", "(IILChunkShelf$Piece;)V"⟩
abbrev cX0_isShelved : ByteArray := prog_2_method_2_code
def yX0_isShelved : MethodName := ⟨RX0, "isShelved", "()Z"⟩
abbrev cX0_isCrumb : ByteArray := prog_2_method_3_code
def yX0_isCrumb : MethodName := ⟨RX0, "isCrumb", "()Z"⟩
def RX1 : String := "ChunkShelf$Row"
def TX1 : u_T := fun k => match k with
  | 0 => ("ChunkShelf$Row", "cells", "I", true)
  | 1 => ("ChunkShelf$Row", "latest", "LChunkShelf$Piece;", false)
  | 2 => ("ChunkShelf$Row", "less", "LChunkShelf$Row;", false)
  | _ => ("ChunkShelf$Row", "more", "LChunkShelf$Row;", false)
def tyX1 : Nat → FieldType := fun k => match k with
  | 0 => .int
  | 1 => .object "ChunkShelf$Piece"
  | 2 => .object "ChunkShelf$Row"
  | _ => .object "ChunkShelf$Row"
theorem nmX1 : ∀ a, a < 4 → ∀ b, b < 4 → a ≠ b → (TX1 a).2.1 ≠ (TX1 b).2.1 := by decide +kernel
theorem tyX1_ok : ∀ k, k < 4 → parseFieldDescriptor (TX1 k).2.2.1 = some (tyX1 k) := by decide +kernel
abbrev cX1_init : ByteArray := prog_3_method_1_code
def yX1_init : MethodName := ⟨RX1, "<init>", "(I)V"⟩
abbrev cX1_push : ByteArray := prog_3_method_2_code
def yX1_push : MethodName := ⟨RX1, "push", "(LChunkShelf$Piece;)V"⟩
abbrev cX1_drop : ByteArray := prog_3_method_3_code
def yX1_drop : MethodName := ⟨RX1, "drop", "(LChunkShelf$Piece;)V"⟩
abbrev cX1_kthLatest : ByteArray := prog_3_method_4_code
def yX1_kthLatest : MethodName := ⟨RX1, "kthLatest", "(I)LChunkShelf$Piece;"⟩
def RX2 : String := "ChunkShelf$Shelves"
def TX2 : u_T := fun k => match k with
  | 0 => ("ChunkShelf$Shelves", "small", "[LChunkShelf$Row;", true)
  | 1 => ("ChunkShelf$Shelves", "great", "LChunkShelf$Tree;", true)
  | _ => ("ChunkShelf$Shelves", "now", "J", false)
def tyX2 : Nat → FieldType := fun k => match k with
  | 0 => .array (.object "ChunkShelf$Row")
  | 1 => .object "ChunkShelf$Tree"
  | _ => .long
theorem nmX2 : ∀ a, a < 3 → ∀ b, b < 3 → a ≠ b → (TX2 a).2.1 ≠ (TX2 b).2.1 := by decide +kernel
theorem tyX2_ok : ∀ k, k < 3 → parseFieldDescriptor (TX2 k).2.2.1 = some (tyX2 k) := by decide +kernel
abbrev cX2_init : ByteArray := prog_4_method_1_code
def yX2_init : MethodName := ⟨RX2, "<init>", "()V"⟩
abbrev cX2_clear : ByteArray := prog_4_method_2_code
def yX2_clear : MethodName := ⟨RX2, "clear", "()V"⟩
abbrev cX2_rowOf : ByteArray := prog_4_method_3_code
def yX2_rowOf : MethodName := ⟨RX2, "rowOf", "(I)LChunkShelf$Row;"⟩
abbrev cX2_smallestFrom : ByteArray := prog_4_method_4_code
def yX2_smallestFrom : MethodName := ⟨RX2, "smallestFrom", "(I)LChunkShelf$Piece;"⟩
abbrev cX2_putIn : ByteArray := prog_4_method_5_code
def yX2_putIn : MethodName := ⟨RX2, "putIn", "(LChunkShelf$Piece;)V"⟩
abbrev cX2_pullOut : ByteArray := prog_4_method_6_code
def yX2_pullOut : MethodName := ⟨RX2, "pullOut", "(LChunkShelf$Piece;)V"⟩
abbrev cX2_wrongThings : ByteArray := prog_4_method_7_code
def yX2_wrongThings : MethodName := ⟨RX2, "wrongThings", "(II)I"⟩
abbrev cX2_wrongInRow : ByteArray := prog_4_method_8_code
def yX2_wrongInRow : MethodName := ⟨RX2, "wrongInRow", "(LChunkShelf$Row;I)I"⟩
abbrev cX2_piecesIn : ByteArray := prog_4_method_9_code
def yX2_piecesIn : MethodName := ⟨RX2, "piecesIn", "(LChunkShelf$Row;I)I"⟩
def RX3 : String := "ChunkShelf$Tree"
def TX3 : u_T := fun k => match k with
  | _ => ("ChunkShelf$Tree", "root", "LChunkShelf$Row;", false)
def tyX3 : Nat → FieldType := fun k => match k with
  | _ => .object "ChunkShelf$Row"
theorem nmX3 : ∀ a, a < 1 → ∀ b, b < 1 → a ≠ b → (TX3 a).2.1 ≠ (TX3 b).2.1 := by decide +kernel
theorem tyX3_ok : ∀ k, k < 1 → parseFieldDescriptor (TX3 k).2.2.1 = some (tyX3 k) := by decide +kernel
abbrev cX3_init : ByteArray := prog_5_method_1_code
def yX3_init : MethodName := ⟨RX3, "<init>", "()V"⟩
abbrev cX3_rowOf : ByteArray := prog_5_method_2_code
def yX3_rowOf : MethodName := ⟨RX3, "rowOf", "(I)LChunkShelf$Row;"⟩
abbrev cX3_leastFrom : ByteArray := prog_5_method_3_code
def yX3_leastFrom : MethodName := ⟨RX3, "leastFrom", "(I)LChunkShelf$Row;"⟩
abbrev cX3_rowMadeFor : ByteArray := prog_5_method_4_code
def yX3_rowMadeFor : MethodName := ⟨RX3, "rowMadeFor", "(I)LChunkShelf$Row;"⟩
abbrev cX3_remove : ByteArray := prog_5_method_5_code
def yX3_remove : MethodName := ⟨RX3, "remove", "(LChunkShelf$Row;)V"⟩
abbrev cX3_parentFor : ByteArray := prog_5_method_6_code
def yX3_parentFor : MethodName := ⟨RX3, "parentFor", "(I)LChunkShelf$Row;"⟩
abbrev cX3_hang : ByteArray := prog_5_method_7_code
def yX3_hang : MethodName := ⟨RX3, "hang", "(LChunkShelf$Row;ILChunkShelf$Row;)V"⟩
abbrev cX3_heirOf : ByteArray := prog_5_method_8_code
def yX3_heirOf : MethodName := ⟨RX3, "heirOf", "(LChunkShelf$Row;)LChunkShelf$Row;"⟩
def RX4 : String := "ChunkShelf"
def TX4 : u_T := fun k => match k with
  | 0 => ("ChunkShelf", "shelves", "LChunkShelf$Shelves;", true)
  | 1 => ("ChunkShelf", "lowest", "LChunkShelf$Piece;", false)
  | 2 => ("ChunkShelf", "cellCount", "I", false)
  | _ => ("ChunkShelf", "misses", "I", false)
def tyX4 : Nat → FieldType := fun k => match k with
  | 0 => .object "ChunkShelf$Shelves"
  | 1 => .object "ChunkShelf$Piece"
  | 2 => .int
  | _ => .int
theorem nmX4 : ∀ a, a < 4 → ∀ b, b < 4 → a ≠ b → (TX4 a).2.1 ≠ (TX4 b).2.1 := by decide +kernel
theorem tyX4_ok : ∀ k, k < 4 → parseFieldDescriptor (TX4 k).2.2.1 = some (tyX4 k) := by decide +kernel
abbrev cX4_init : ByteArray := prog_1_method_1_code
def yX4_init : MethodName := ⟨RX4, "<init>", "()V"⟩
abbrev cX4_space : ByteArray := prog_1_method_2_code
def yX4_space : MethodName := ⟨RX4, "space", "(I)I"⟩
abbrev cX4_take : ByteArray := prog_1_method_3_code
def yX4_take : MethodName := ⟨RX4, "take", "(I)I"⟩
abbrev cX4_give : ByteArray := prog_1_method_4_code
def yX4_give : MethodName := ⟨RX4, "give", "(I)I"⟩
abbrev cX4_join : ByteArray := prog_1_method_5_code
def yX4_join : MethodName := ⟨RX4, "join", "(I)I"⟩
abbrev cX4_joinAll : ByteArray := prog_1_method_6_code
def yX4_joinAll : MethodName := ⟨RX4, "joinAll", "()I"⟩
abbrev cX4_suffices : ByteArray := prog_1_method_7_code
def yX4_suffices : MethodName := ⟨RX4, "suffices", "(I)I"⟩
abbrev cX4_piece : ByteArray := prog_1_method_8_code
def yX4_piece : MethodName := ⟨RX4, "piece", "(I)I"⟩
abbrev cX4_cover : ByteArray := prog_1_method_9_code
def yX4_cover : MethodName := ⟨RX4, "cover", "(I)I"⟩
abbrev cX4_free : ByteArray := prog_1_method_10_code
def yX4_free : MethodName := ⟨RX4, "free", "(II)I"⟩
abbrev cX4_count : ByteArray := prog_1_method_11_code
def yX4_count : MethodName := ⟨RX4, "count", "(I)I"⟩
abbrev cX4_faults : ByteArray := prog_1_method_12_code
def yX4_faults : MethodName := ⟨RX4, "faults", "()I"⟩
abbrev cX4_startWith : ByteArray := prog_1_method_13_code
def yX4_startWith : MethodName := ⟨RX4, "startWith", "(I)V"⟩
abbrev cX4_requireSize : ByteArray := prog_1_method_14_code
def yX4_requireSize : MethodName := ⟨RX4, "requireSize", "(I)V"⟩
abbrev cX4_cut : ByteArray := prog_1_method_15_code
def yX4_cut : MethodName := ⟨RX4, "cut", "(LChunkShelf$Piece;I)V"⟩
abbrev cX4_swallowFreeBehind : ByteArray := prog_1_method_16_code
def yX4_swallowFreeBehind : MethodName := ⟨RX4, "swallowFreeBehind", "(LChunkShelf$Piece;)I"⟩
abbrev cX4_beginningAt : ByteArray := prog_1_method_17_code
def yX4_beginningAt : MethodName := ⟨RX4, "beginningAt", "(I)LChunkShelf$Piece;"⟩
abbrev cX4_holding : ByteArray := prog_1_method_18_code
def yX4_holding : MethodName := ⟨RX4, "holding", "(I)LChunkShelf$Piece;"⟩
abbrev cX4_freeCells : ByteArray := prog_1_method_19_code
def yX4_freeCells : MethodName := ⟨RX4, "freeCells", "()I"⟩
abbrev cX4_crumbCells : ByteArray := prog_1_method_20_code
def yX4_crumbCells : MethodName := ⟨RX4, "crumbCells", "()I"⟩
abbrev cX4_usedPieces : ByteArray := prog_1_method_21_code
def yX4_usedPieces : MethodName := ⟨RX4, "usedPieces", "()I"⟩
abbrev cX4_shelvedPieces : ByteArray := prog_1_method_22_code
def yX4_shelvedPieces : MethodName := ⟨RX4, "shelvedPieces", "()I"⟩
abbrev cX4_crumbs : ByteArray := prog_1_method_23_code
def yX4_crumbs : MethodName := ⟨RX4, "crumbs", "()I"⟩
abbrev cX4_greatestFree : ByteArray := prog_1_method_24_code
def yX4_greatestFree : MethodName := ⟨RX4, "greatestFree", "()I"⟩
def RX5 : String := "ChunkShelfModel"
def TX5 : u_T := fun k => match k with
  | 0 => ("ChunkShelfModel", "thrown", "I", false)
  | 1 => ("ChunkShelfModel", "cells", "I", false)
  | 2 => ("ChunkShelfModel", "sizes", "[I", true)
  | 3 => ("ChunkShelfModel", "times", "[I", true)
  | 4 => ("ChunkShelfModel", "now", "I", false)
  | _ => ("ChunkShelfModel", "failures", "I", false)
def tyX5 : Nat → FieldType := fun k => match k with
  | 0 => .int
  | 1 => .int
  | 2 => .array .int
  | 3 => .array .int
  | 4 => .int
  | _ => .int
theorem nmX5 : ∀ a, a < 6 → ∀ b, b < 6 → a ≠ b → (TX5 a).2.1 ≠ (TX5 b).2.1 := by decide +kernel
theorem tyX5_ok : ∀ k, k < 6 → parseFieldDescriptor (TX5 k).2.2.1 = some (tyX5 k) := by decide +kernel
abbrev cX5_init : ByteArray := prog_7_method_1_code
def yX5_init : MethodName := ⟨RX5, "<init>", "()V"⟩
abbrev cX5_thrown : ByteArray := prog_7_method_2_code
def yX5_thrown : MethodName := ⟨RX5, "thrown", "()I"⟩
abbrev cX5_goes : ByteArray := prog_7_method_3_code
def yX5_goes : MethodName := ⟨RX5, "goes", "(Z)Z"⟩
abbrev cX5_length : ByteArray := prog_7_method_4_code
def yX5_length : MethodName := ⟨RX5, "length", "(I)I"⟩
abbrev cX5_release : ByteArray := prog_7_method_5_code
def yX5_release : MethodName := ⟨RX5, "release", "(II)V"⟩
abbrev cX5_space : ByteArray := prog_7_method_6_code
def yX5_space : MethodName := ⟨RX5, "space", "(I)I"⟩
abbrev cX5_best : ByteArray := prog_7_method_7_code
def yX5_best : MethodName := ⟨RX5, "best", "(I)I"⟩
abbrev cX5_sized : ByteArray := prog_7_method_8_code
def yX5_sized : MethodName := ⟨RX5, "sized", "(I)Z"⟩
abbrev cX5_take : ByteArray := prog_7_method_9_code
def yX5_take : MethodName := ⟨RX5, "take", "(I)I"⟩
abbrev cX5_known : ByteArray := prog_7_method_10_code
def yX5_known : MethodName := ⟨RX5, "known", "(I)Z"⟩
abbrev cX5_give : ByteArray := prog_7_method_11_code
def yX5_give : MethodName := ⟨RX5, "give", "(I)I"⟩
abbrev cX5_joined : ByteArray := prog_7_method_12_code
def yX5_joined : MethodName := ⟨RX5, "joined", "(I)I"⟩
abbrev cX5_join : ByteArray := prog_7_method_13_code
def yX5_join : MethodName := ⟨RX5, "join", "(I)I"⟩
abbrev cX5_joinAll : ByteArray := prog_7_method_14_code
def yX5_joinAll : MethodName := ⟨RX5, "joinAll", "()I"⟩
abbrev cX5_suffices : ByteArray := prog_7_method_15_code
def yX5_suffices : MethodName := ⟨RX5, "suffices", "(I)I"⟩
abbrev cX5_piece : ByteArray := prog_7_method_16_code
def yX5_piece : MethodName := ⟨RX5, "piece", "(I)I"⟩
abbrev cX5_cover : ByteArray := prog_7_method_17_code
def yX5_cover : MethodName := ⟨RX5, "cover", "(I)I"⟩
abbrev cX5_free : ByteArray := prog_7_method_18_code
def yX5_free : MethodName := ⟨RX5, "free", "(II)I"⟩
abbrev cX5_greatest : ByteArray := prog_7_method_19_code
def yX5_greatest : MethodName := ⟨RX5, "greatest", "()I"⟩
abbrev cX5_count : ByteArray := prog_7_method_20_code
def yX5_count : MethodName := ⟨RX5, "count", "(I)I"⟩
abbrev cX5_faults : ByteArray := prog_7_method_21_code
def yX5_faults : MethodName := ⟨RX5, "faults", "()I"⟩
def RJ9 : String := "java/lang/Math"
def TJ9 : u_T := fun k => match k with
  | _ => ("", "", "", false)
def tyJ9 : Nat → FieldType := fun k => match k with
  | _ => .int
theorem nmJ9 : ∀ a, a < 0 → ∀ b, b < 0 → a ≠ b → (TJ9 a).2.1 ≠ (TJ9 b).2.1 := by decide +kernel
theorem tyJ9_ok : ∀ k, k < 0 → parseFieldDescriptor (TJ9 k).2.2.1 = some (tyJ9 k) := by decide +kernel
abbrev cJ9_max_7cf53 : ByteArray := prog_10_method_65_code
def yJ9_max_7cf53 : MethodName := ⟨RJ9, "max", "(II)I"⟩
def RJ0 : String := "java/lang/String"
def TJ0 : u_T := fun k => match k with
  | _ => ("", "", "", false)
def tyJ0 : Nat → FieldType := fun k => match k with
  | _ => .int
theorem nmJ0 : ∀ a, a < 0 → ∀ b, b < 0 → a ≠ b → (TJ0 a).2.1 ≠ (TJ0 b).2.1 := by decide +kernel
theorem tyJ0_ok : ∀ k, k < 0 → parseFieldDescriptor (TJ0 k).2.2.1 = some (tyJ0 k) := by decide +kernel
def RL : String := "ChunkShelfLaw"
abbrev cL_space : ByteArray := method_3_code
def yL_space : MethodName := ⟨RL, "space", "(LChunkShelf;I[J)I"⟩
abbrev cL_take : ByteArray := method_4_code
def yL_take : MethodName := ⟨RL, "take", "(LChunkShelf;I[J)I"⟩
abbrev cL_give : ByteArray := method_5_code
def yL_give : MethodName := ⟨RL, "give", "(LChunkShelf;I[J)I"⟩
abbrev cL_join : ByteArray := method_6_code
def yL_join : MethodName := ⟨RL, "join", "(LChunkShelf;I[J)I"⟩
abbrev cL_suffices : ByteArray := method_7_code
def yL_suffices : MethodName := ⟨RL, "suffices", "(LChunkShelf;I[J)I"⟩
abbrev cL_free : ByteArray := method_8_code
def yL_free : MethodName := ⟨RL, "free", "(LChunkShelf;II[J)I"⟩
abbrev cL_count : ByteArray := method_9_code
def yL_count : MethodName := ⟨RL, "count", "(LChunkShelf;I[J)I"⟩
abbrev cL_law : ByteArray := code
def yL_law : MethodName := ⟨RL, "law", "([I)Z"⟩
abbrev vwCl : List vw_C := [(RX0, TX0, 7), (RX1, TX1, 4), (RX2, TX2, 3), (RX3, TX3, 1), (RX4, TX4, 4), (RX5, TX5, 6)]
end
section
theorem dX0_init_0 : decode cX0_init 0 = .ok (.aload_n 0, 1) := by decide +kernel
theorem dX0_init_1 : decode cX0_init 1 = .ok (.invokespecial 3, 3) := by decide +kernel
theorem dX0_init_4 : decode cX0_init 4 = .ok (.aload_n 0, 1) := by decide +kernel
theorem dX0_init_5 : decode cX0_init 5 = .ok (.iload_n 1, 1) := by decide +kernel
theorem dX0_init_6 : decode cX0_init 6 = .ok (.putfield 9, 3) := by decide +kernel
theorem dX0_init_9 : decode cX0_init 9 = .ok (.aload_n 0, 1) := by decide +kernel
theorem dX0_init_10 : decode cX0_init 10 = .ok (.iload_n 2, 1) := by decide +kernel
theorem dX0_init_11 : decode cX0_init 11 = .ok (.putfield 15, 3) := by decide +kernel
theorem dX0_init_14 : decode cX0_init 14 = .ok (.aload_n 0, 1) := by decide +kernel
theorem dX0_init_15 : decode cX0_init 15 = .ok (.aload_n 3, 1) := by decide +kernel
theorem dX0_init_16 : decode cX0_init 16 = .ok (.putfield 18, 3) := by decide +kernel
theorem dX0_init_19 : decode cX0_init 19 = .ok (.return_, 1) := by decide +kernel
theorem dX0_isShelved_0 : decode cX0_isShelved 0 = .ok (.aload_n 0, 1) := by decide +kernel
theorem dX0_isShelved_1 : decode cX0_isShelved 1 = .ok (.getfield 22, 3) := by decide +kernel
theorem dX0_isShelved_4 : decode cX0_isShelved 4 = .ok (.ifCond .eq 15, 3) := by decide +kernel
theorem dX0_isShelved_7 : decode cX0_isShelved 7 = .ok (.aload_n 0, 1) := by decide +kernel
theorem dX0_isShelved_8 : decode cX0_isShelved 8 = .ok (.getfield 15, 3) := by decide +kernel
theorem dX0_isShelved_11 : decode cX0_isShelved 11 = .ok (.iconst 3, 1) := by decide +kernel
theorem dX0_isShelved_12 : decode cX0_isShelved 12 = .ok (.if_icmp .lt 7, 3) := by decide +kernel
theorem dX0_isShelved_15 : decode cX0_isShelved 15 = .ok (.iconst 1, 1) := by decide +kernel
theorem dX0_isShelved_16 : decode cX0_isShelved 16 = .ok (.goto 4, 3) := by decide +kernel
theorem dX0_isShelved_19 : decode cX0_isShelved 19 = .ok (.iconst 0, 1) := by decide +kernel
theorem dX0_isShelved_20 : decode cX0_isShelved 20 = .ok (.ireturn, 1) := by decide +kernel
theorem dX0_isCrumb_0 : decode cX0_isCrumb 0 = .ok (.aload_n 0, 1) := by decide +kernel
theorem dX0_isCrumb_1 : decode cX0_isCrumb 1 = .ok (.getfield 22, 3) := by decide +kernel
theorem dX0_isCrumb_4 : decode cX0_isCrumb 4 = .ok (.ifCond .eq 15, 3) := by decide +kernel
theorem dX0_isCrumb_7 : decode cX0_isCrumb 7 = .ok (.aload_n 0, 1) := by decide +kernel
theorem dX0_isCrumb_8 : decode cX0_isCrumb 8 = .ok (.getfield 15, 3) := by decide +kernel
theorem dX0_isCrumb_11 : decode cX0_isCrumb 11 = .ok (.iconst 3, 1) := by decide +kernel
theorem dX0_isCrumb_12 : decode cX0_isCrumb 12 = .ok (.if_icmp .ge 7, 3) := by decide +kernel
theorem dX0_isCrumb_15 : decode cX0_isCrumb 15 = .ok (.iconst 1, 1) := by decide +kernel
theorem dX0_isCrumb_16 : decode cX0_isCrumb 16 = .ok (.goto 4, 3) := by decide +kernel
theorem dX0_isCrumb_19 : decode cX0_isCrumb 19 = .ok (.iconst 0, 1) := by decide +kernel
theorem dX0_isCrumb_20 : decode cX0_isCrumb 20 = .ok (.ireturn, 1) := by decide +kernel
theorem dX1_init_0 : decode cX1_init 0 = .ok (.aload_n 0, 1) := by decide +kernel
theorem dX1_init_1 : decode cX1_init 1 = .ok (.invokespecial 1, 3) := by decide +kernel
theorem dX1_init_4 : decode cX1_init 4 = .ok (.aload_n 0, 1) := by decide +kernel
theorem dX1_init_5 : decode cX1_init 5 = .ok (.iload_n 1, 1) := by decide +kernel
theorem dX1_init_6 : decode cX1_init 6 = .ok (.putfield 7, 3) := by decide +kernel
theorem dX1_init_9 : decode cX1_init 9 = .ok (.return_, 1) := by decide +kernel
theorem dX1_push_0 : decode cX1_push 0 = .ok (.aload_n 1, 1) := by decide +kernel
theorem dX1_push_1 : decode cX1_push 1 = .ok (.aload_n 0, 1) := by decide +kernel
theorem dX1_push_2 : decode cX1_push 2 = .ok (.getfield 13, 3) := by decide +kernel
theorem dX1_push_5 : decode cX1_push 5 = .ok (.putfield 17, 3) := by decide +kernel
theorem dX1_push_8 : decode cX1_push 8 = .ok (.aload_n 0, 1) := by decide +kernel
theorem dX1_push_9 : decode cX1_push 9 = .ok (.aload_n 1, 1) := by decide +kernel
theorem dX1_push_10 : decode cX1_push 10 = .ok (.putfield 13, 3) := by decide +kernel
theorem dX1_push_13 : decode cX1_push 13 = .ok (.return_, 1) := by decide +kernel
theorem dX1_drop_0 : decode cX1_drop 0 = .ok (.aload_n 0, 1) := by decide +kernel
theorem dX1_drop_1 : decode cX1_drop 1 = .ok (.getfield 13, 3) := by decide +kernel
theorem dX1_drop_4 : decode cX1_drop 4 = .ok (.aload_n 1, 1) := by decide +kernel
theorem dX1_drop_5 : decode cX1_drop 5 = .ok (.if_acmp .ne 11, 3) := by decide +kernel
theorem dX1_drop_8 : decode cX1_drop 8 = .ok (.aload_n 0, 1) := by decide +kernel
theorem dX1_drop_9 : decode cX1_drop 9 = .ok (.aload_n 1, 1) := by decide +kernel
theorem dX1_drop_10 : decode cX1_drop 10 = .ok (.getfield 17, 3) := by decide +kernel
theorem dX1_drop_13 : decode cX1_drop 13 = .ok (.putfield 13, 3) := by decide +kernel
theorem dX1_drop_16 : decode cX1_drop 16 = .ok (.aload_n 0, 1) := by decide +kernel
theorem dX1_drop_17 : decode cX1_drop 17 = .ok (.getfield 13, 3) := by decide +kernel
theorem dX1_drop_20 : decode cX1_drop 20 = .ok (.astore_n 2, 1) := by decide +kernel
theorem dX1_drop_21 : decode cX1_drop 21 = .ok (.aload_n 2, 1) := by decide +kernel
theorem dX1_drop_22 : decode cX1_drop 22 = .ok (.ifnull 27, 3) := by decide +kernel
theorem dX1_drop_25 : decode cX1_drop 25 = .ok (.aload_n 2, 1) := by decide +kernel
theorem dX1_drop_26 : decode cX1_drop 26 = .ok (.getfield 17, 3) := by decide +kernel
theorem dX1_drop_29 : decode cX1_drop 29 = .ok (.aload_n 1, 1) := by decide +kernel
theorem dX1_drop_30 : decode cX1_drop 30 = .ok (.if_acmp .ne 11, 3) := by decide +kernel
theorem dX1_drop_33 : decode cX1_drop 33 = .ok (.aload_n 2, 1) := by decide +kernel
theorem dX1_drop_34 : decode cX1_drop 34 = .ok (.aload_n 1, 1) := by decide +kernel
theorem dX1_drop_35 : decode cX1_drop 35 = .ok (.getfield 17, 3) := by decide +kernel
theorem dX1_drop_38 : decode cX1_drop 38 = .ok (.putfield 17, 3) := by decide +kernel
theorem dX1_drop_41 : decode cX1_drop 41 = .ok (.aload_n 2, 1) := by decide +kernel
theorem dX1_drop_42 : decode cX1_drop 42 = .ok (.getfield 17, 3) := by decide +kernel
theorem dX1_drop_45 : decode cX1_drop 45 = .ok (.astore_n 2, 1) := by decide +kernel
theorem dX1_drop_46 : decode cX1_drop 46 = .ok (.goto (-25), 3) := by decide +kernel
theorem dX1_drop_49 : decode cX1_drop 49 = .ok (.return_, 1) := by decide +kernel
theorem dX1_kthLatest_0 : decode cX1_kthLatest 0 = .ok (.aload_n 0, 1) := by decide +kernel
theorem dX1_kthLatest_1 : decode cX1_kthLatest 1 = .ok (.getfield 13, 3) := by decide +kernel
theorem dX1_kthLatest_4 : decode cX1_kthLatest 4 = .ok (.astore_n 2, 1) := by decide +kernel
theorem dX1_kthLatest_5 : decode cX1_kthLatest 5 = .ok (.iconst 0, 1) := by decide +kernel
theorem dX1_kthLatest_6 : decode cX1_kthLatest 6 = .ok (.istore_n 3, 1) := by decide +kernel
theorem dX1_kthLatest_7 : decode cX1_kthLatest 7 = .ok (.aload_n 2, 1) := by decide +kernel
theorem dX1_kthLatest_8 : decode cX1_kthLatest 8 = .ok (.ifnull 19, 3) := by decide +kernel
theorem dX1_kthLatest_11 : decode cX1_kthLatest 11 = .ok (.iload_n 3, 1) := by decide +kernel
theorem dX1_kthLatest_12 : decode cX1_kthLatest 12 = .ok (.iload_n 1, 1) := by decide +kernel
theorem dX1_kthLatest_13 : decode cX1_kthLatest 13 = .ok (.if_icmp .ge 14, 3) := by decide +kernel
theorem dX1_kthLatest_16 : decode cX1_kthLatest 16 = .ok (.aload_n 2, 1) := by decide +kernel
theorem dX1_kthLatest_17 : decode cX1_kthLatest 17 = .ok (.getfield 17, 3) := by decide +kernel
theorem dX1_kthLatest_20 : decode cX1_kthLatest 20 = .ok (.astore_n 2, 1) := by decide +kernel
theorem dX1_kthLatest_21 : decode cX1_kthLatest 21 = .ok (.iinc 3 1, 3) := by decide +kernel
theorem dX1_kthLatest_24 : decode cX1_kthLatest 24 = .ok (.goto (-17), 3) := by decide +kernel
theorem dX1_kthLatest_27 : decode cX1_kthLatest 27 = .ok (.aload_n 2, 1) := by decide +kernel
theorem dX1_kthLatest_28 : decode cX1_kthLatest 28 = .ok (.areturn, 1) := by decide +kernel
theorem dX2_init_0 : decode cX2_init 0 = .ok (.aload_n 0, 1) := by decide +kernel
theorem dX2_init_1 : decode cX2_init 1 = .ok (.invokespecial 3, 3) := by decide +kernel
theorem dX2_init_4 : decode cX2_init 4 = .ok (.aload_n 0, 1) := by decide +kernel
theorem dX2_init_5 : decode cX2_init 5 = .ok (.bipush 61, 2) := by decide +kernel
theorem dX2_init_7 : decode cX2_init 7 = .ok (.anewarray 9, 3) := by decide +kernel
theorem dX2_init_10 : decode cX2_init 10 = .ok (.putfield 11, 3) := by decide +kernel
theorem dX2_init_13 : decode cX2_init 13 = .ok (.iconst 0, 1) := by decide +kernel
theorem dX2_init_14 : decode cX2_init 14 = .ok (.istore_n 1, 1) := by decide +kernel
theorem dX2_init_15 : decode cX2_init 15 = .ok (.iload_n 1, 1) := by decide +kernel
theorem dX2_init_16 : decode cX2_init 16 = .ok (.aload_n 0, 1) := by decide +kernel
theorem dX2_init_17 : decode cX2_init 17 = .ok (.getfield 11, 3) := by decide +kernel
theorem dX2_init_20 : decode cX2_init 20 = .ok (.arraylength, 1) := by decide +kernel
theorem dX2_init_21 : decode cX2_init 21 = .ok (.if_icmp .ge 25, 3) := by decide +kernel
theorem dX2_init_24 : decode cX2_init 24 = .ok (.aload_n 0, 1) := by decide +kernel
theorem dX2_init_25 : decode cX2_init 25 = .ok (.getfield 11, 3) := by decide +kernel
theorem dX2_init_28 : decode cX2_init 28 = .ok (.iload_n 1, 1) := by decide +kernel
theorem dX2_init_29 : decode cX2_init 29 = .ok (.new 9, 3) := by decide +kernel
theorem dX2_init_32 : decode cX2_init 32 = .ok (.dup, 1) := by decide +kernel
theorem dX2_init_33 : decode cX2_init 33 = .ok (.iconst 3, 1) := by decide +kernel
theorem dX2_init_34 : decode cX2_init 34 = .ok (.iload_n 1, 1) := by decide +kernel
theorem dX2_init_35 : decode cX2_init 35 = .ok (.iadd, 1) := by decide +kernel
theorem dX2_init_36 : decode cX2_init 36 = .ok (.invokespecial 17, 3) := by decide +kernel
theorem dX2_init_39 : decode cX2_init 39 = .ok (.aastore, 1) := by decide +kernel
theorem dX2_init_40 : decode cX2_init 40 = .ok (.iinc 1 1, 3) := by decide +kernel
theorem dX2_init_43 : decode cX2_init 43 = .ok (.goto (-28), 3) := by decide +kernel
theorem dX2_init_46 : decode cX2_init 46 = .ok (.aload_n 0, 1) := by decide +kernel
theorem dX2_init_47 : decode cX2_init 47 = .ok (.new 20, 3) := by decide +kernel
theorem dX2_init_50 : decode cX2_init 50 = .ok (.dup, 1) := by decide +kernel
theorem dX2_init_51 : decode cX2_init 51 = .ok (.invokespecial 22, 3) := by decide +kernel
theorem dX2_init_54 : decode cX2_init 54 = .ok (.putfield 23, 3) := by decide +kernel
theorem dX2_init_57 : decode cX2_init 57 = .ok (.return_, 1) := by decide +kernel
theorem dX2_clear_0 : decode cX2_clear 0 = .ok (.iconst 0, 1) := by decide +kernel
theorem dX2_clear_1 : decode cX2_clear 1 = .ok (.istore_n 1, 1) := by decide +kernel
theorem dX2_clear_2 : decode cX2_clear 2 = .ok (.iload_n 1, 1) := by decide +kernel
theorem dX2_clear_3 : decode cX2_clear 3 = .ok (.aload_n 0, 1) := by decide +kernel
theorem dX2_clear_4 : decode cX2_clear 4 = .ok (.getfield 11, 3) := by decide +kernel
theorem dX2_clear_7 : decode cX2_clear 7 = .ok (.arraylength, 1) := by decide +kernel
theorem dX2_clear_8 : decode cX2_clear 8 = .ok (.if_icmp .ge 19, 3) := by decide +kernel
theorem dX2_clear_11 : decode cX2_clear 11 = .ok (.aload_n 0, 1) := by decide +kernel
theorem dX2_clear_12 : decode cX2_clear 12 = .ok (.getfield 11, 3) := by decide +kernel
theorem dX2_clear_15 : decode cX2_clear 15 = .ok (.iload_n 1, 1) := by decide +kernel
theorem dX2_clear_16 : decode cX2_clear 16 = .ok (.aaload, 1) := by decide +kernel
theorem dX2_clear_17 : decode cX2_clear 17 = .ok (.aconst_null, 1) := by decide +kernel
theorem dX2_clear_18 : decode cX2_clear 18 = .ok (.putfield 27, 3) := by decide +kernel
theorem dX2_clear_21 : decode cX2_clear 21 = .ok (.iinc 1 1, 3) := by decide +kernel
theorem dX2_clear_24 : decode cX2_clear 24 = .ok (.goto (-22), 3) := by decide +kernel
theorem dX2_clear_27 : decode cX2_clear 27 = .ok (.aload_n 0, 1) := by decide +kernel
theorem dX2_clear_28 : decode cX2_clear 28 = .ok (.getfield 23, 3) := by decide +kernel
theorem dX2_clear_31 : decode cX2_clear 31 = .ok (.aconst_null, 1) := by decide +kernel
theorem dX2_clear_32 : decode cX2_clear 32 = .ok (.putfield 31, 3) := by decide +kernel
theorem dX2_clear_35 : decode cX2_clear 35 = .ok (.return_, 1) := by decide +kernel
theorem dX2_rowOf_0 : decode cX2_rowOf 0 = .ok (.iload_n 1, 1) := by decide +kernel
theorem dX2_rowOf_1 : decode cX2_rowOf 1 = .ok (.iconst 3, 1) := by decide +kernel
theorem dX2_rowOf_2 : decode cX2_rowOf 2 = .ok (.if_icmp .ge 5, 3) := by decide +kernel
theorem dX2_rowOf_5 : decode cX2_rowOf 5 = .ok (.aconst_null, 1) := by decide +kernel
theorem dX2_rowOf_6 : decode cX2_rowOf 6 = .ok (.areturn, 1) := by decide +kernel
theorem dX2_rowOf_7 : decode cX2_rowOf 7 = .ok (.iload_n 1, 1) := by decide +kernel
theorem dX2_rowOf_8 : decode cX2_rowOf 8 = .ok (.bipush 64, 2) := by decide +kernel
theorem dX2_rowOf_10 : decode cX2_rowOf 10 = .ok (.if_icmp .ge 14, 3) := by decide +kernel
theorem dX2_rowOf_13 : decode cX2_rowOf 13 = .ok (.aload_n 0, 1) := by decide +kernel
theorem dX2_rowOf_14 : decode cX2_rowOf 14 = .ok (.getfield 11, 3) := by decide +kernel
theorem dX2_rowOf_17 : decode cX2_rowOf 17 = .ok (.iload_n 1, 1) := by decide +kernel
theorem dX2_rowOf_18 : decode cX2_rowOf 18 = .ok (.iconst 3, 1) := by decide +kernel
theorem dX2_rowOf_19 : decode cX2_rowOf 19 = .ok (.isub, 1) := by decide +kernel
theorem dX2_rowOf_20 : decode cX2_rowOf 20 = .ok (.aaload, 1) := by decide +kernel
theorem dX2_rowOf_21 : decode cX2_rowOf 21 = .ok (.goto 11, 3) := by decide +kernel
theorem dX2_rowOf_24 : decode cX2_rowOf 24 = .ok (.aload_n 0, 1) := by decide +kernel
theorem dX2_rowOf_25 : decode cX2_rowOf 25 = .ok (.getfield 23, 3) := by decide +kernel
theorem dX2_rowOf_28 : decode cX2_rowOf 28 = .ok (.iload_n 1, 1) := by decide +kernel
theorem dX2_rowOf_29 : decode cX2_rowOf 29 = .ok (.invokevirtual 35, 3) := by decide +kernel
theorem dX2_rowOf_32 : decode cX2_rowOf 32 = .ok (.areturn, 1) := by decide +kernel
theorem dX2_smallestFrom_0 : decode cX2_smallestFrom 0 = .ok (.iload_n 1, 1) := by decide +kernel
theorem dX2_smallestFrom_1 : decode cX2_smallestFrom 1 = .ok (.iconst 3, 1) := by decide +kernel
theorem dX2_smallestFrom_2 : decode cX2_smallestFrom 2 = .ok (.invokestatic 39, 3) := by decide +kernel
theorem dX2_smallestFrom_5 : decode cX2_smallestFrom 5 = .ok (.istore_n 2, 1) := by decide +kernel
theorem dX2_smallestFrom_6 : decode cX2_smallestFrom 6 = .ok (.iload_n 2, 1) := by decide +kernel
theorem dX2_smallestFrom_7 : decode cX2_smallestFrom 7 = .ok (.bipush 64, 2) := by decide +kernel
theorem dX2_smallestFrom_9 : decode cX2_smallestFrom 9 = .ok (.if_icmp .ge 30, 3) := by decide +kernel
theorem dX2_smallestFrom_12 : decode cX2_smallestFrom 12 = .ok (.aload_n 0, 1) := by decide +kernel
theorem dX2_smallestFrom_13 : decode cX2_smallestFrom 13 = .ok (.getfield 11, 3) := by decide +kernel
theorem dX2_smallestFrom_16 : decode cX2_smallestFrom 16 = .ok (.iload_n 2, 1) := by decide +kernel
theorem dX2_smallestFrom_17 : decode cX2_smallestFrom 17 = .ok (.iconst 3, 1) := by decide +kernel
theorem dX2_smallestFrom_18 : decode cX2_smallestFrom 18 = .ok (.isub, 1) := by decide +kernel
theorem dX2_smallestFrom_19 : decode cX2_smallestFrom 19 = .ok (.aaload, 1) := by decide +kernel
theorem dX2_smallestFrom_20 : decode cX2_smallestFrom 20 = .ok (.astore_n 3, 1) := by decide +kernel
theorem dX2_smallestFrom_21 : decode cX2_smallestFrom 21 = .ok (.aload_n 3, 1) := by decide +kernel
theorem dX2_smallestFrom_22 : decode cX2_smallestFrom 22 = .ok (.getfield 27, 3) := by decide +kernel
theorem dX2_smallestFrom_25 : decode cX2_smallestFrom 25 = .ok (.ifnull 8, 3) := by decide +kernel
theorem dX2_smallestFrom_28 : decode cX2_smallestFrom 28 = .ok (.aload_n 3, 1) := by decide +kernel
theorem dX2_smallestFrom_29 : decode cX2_smallestFrom 29 = .ok (.getfield 27, 3) := by decide +kernel
theorem dX2_smallestFrom_32 : decode cX2_smallestFrom 32 = .ok (.areturn, 1) := by decide +kernel
theorem dX2_smallestFrom_33 : decode cX2_smallestFrom 33 = .ok (.iinc 2 1, 3) := by decide +kernel
theorem dX2_smallestFrom_36 : decode cX2_smallestFrom 36 = .ok (.goto (-30), 3) := by decide +kernel
theorem dX2_smallestFrom_39 : decode cX2_smallestFrom 39 = .ok (.aload_n 0, 1) := by decide +kernel
theorem dX2_smallestFrom_40 : decode cX2_smallestFrom 40 = .ok (.getfield 23, 3) := by decide +kernel
theorem dX2_smallestFrom_43 : decode cX2_smallestFrom 43 = .ok (.iload_n 1, 1) := by decide +kernel
theorem dX2_smallestFrom_44 : decode cX2_smallestFrom 44 = .ok (.invokevirtual 45, 3) := by decide +kernel
theorem dX2_smallestFrom_47 : decode cX2_smallestFrom 47 = .ok (.astore_n 2, 1) := by decide +kernel
theorem dX2_smallestFrom_48 : decode cX2_smallestFrom 48 = .ok (.aload_n 2, 1) := by decide +kernel
theorem dX2_smallestFrom_49 : decode cX2_smallestFrom 49 = .ok (.ifnonnull 7, 3) := by decide +kernel
theorem dX2_smallestFrom_52 : decode cX2_smallestFrom 52 = .ok (.aconst_null, 1) := by decide +kernel
theorem dX2_smallestFrom_53 : decode cX2_smallestFrom 53 = .ok (.goto 7, 3) := by decide +kernel
theorem dX2_smallestFrom_56 : decode cX2_smallestFrom 56 = .ok (.aload_n 2, 1) := by decide +kernel
theorem dX2_smallestFrom_57 : decode cX2_smallestFrom 57 = .ok (.getfield 27, 3) := by decide +kernel
theorem dX2_smallestFrom_60 : decode cX2_smallestFrom 60 = .ok (.areturn, 1) := by decide +kernel
theorem dX2_putIn_0 : decode cX2_putIn 0 = .ok (.aload_n 1, 1) := by decide +kernel
theorem dX2_putIn_1 : decode cX2_putIn 1 = .ok (.iconst 1, 1) := by decide +kernel
theorem dX2_putIn_2 : decode cX2_putIn 2 = .ok (.putfield 48, 3) := by decide +kernel
theorem dX2_putIn_5 : decode cX2_putIn 5 = .ok (.aload_n 0, 1) := by decide +kernel
theorem dX2_putIn_6 : decode cX2_putIn 6 = .ok (.dup, 1) := by decide +kernel
theorem dX2_putIn_7 : decode cX2_putIn 7 = .ok (.getfield 54, 3) := by decide +kernel
theorem dX2_putIn_10 : decode cX2_putIn 10 = .ok (.lconst 1, 1) := by decide +kernel
theorem dX2_putIn_11 : decode cX2_putIn 11 = .ok (.ladd, 1) := by decide +kernel
theorem dX2_putIn_12 : decode cX2_putIn 12 = .ok (.putfield 54, 3) := by decide +kernel
theorem dX2_putIn_15 : decode cX2_putIn 15 = .ok (.aload_n 1, 1) := by decide +kernel
theorem dX2_putIn_16 : decode cX2_putIn 16 = .ok (.aload_n 0, 1) := by decide +kernel
theorem dX2_putIn_17 : decode cX2_putIn 17 = .ok (.getfield 54, 3) := by decide +kernel
theorem dX2_putIn_20 : decode cX2_putIn 20 = .ok (.putfield 58, 3) := by decide +kernel
theorem dX2_putIn_23 : decode cX2_putIn 23 = .ok (.aload_n 1, 1) := by decide +kernel
theorem dX2_putIn_24 : decode cX2_putIn 24 = .ok (.getfield 61, 3) := by decide +kernel
theorem dX2_putIn_27 : decode cX2_putIn 27 = .ok (.bipush 64, 2) := by decide +kernel
theorem dX2_putIn_29 : decode cX2_putIn 29 = .ok (.if_icmp .lt 21, 3) := by decide +kernel
theorem dX2_putIn_32 : decode cX2_putIn 32 = .ok (.aload_n 0, 1) := by decide +kernel
theorem dX2_putIn_33 : decode cX2_putIn 33 = .ok (.getfield 23, 3) := by decide +kernel
theorem dX2_putIn_36 : decode cX2_putIn 36 = .ok (.aload_n 1, 1) := by decide +kernel
theorem dX2_putIn_37 : decode cX2_putIn 37 = .ok (.getfield 61, 3) := by decide +kernel
theorem dX2_putIn_40 : decode cX2_putIn 40 = .ok (.invokevirtual 65, 3) := by decide +kernel
theorem dX2_putIn_43 : decode cX2_putIn 43 = .ok (.aload_n 1, 1) := by decide +kernel
theorem dX2_putIn_44 : decode cX2_putIn 44 = .ok (.invokevirtual 68, 3) := by decide +kernel
theorem dX2_putIn_47 : decode cX2_putIn 47 = .ok (.goto 26, 3) := by decide +kernel
theorem dX2_putIn_50 : decode cX2_putIn 50 = .ok (.aload_n 1, 1) := by decide +kernel
theorem dX2_putIn_51 : decode cX2_putIn 51 = .ok (.getfield 61, 3) := by decide +kernel
theorem dX2_putIn_54 : decode cX2_putIn 54 = .ok (.iconst 3, 1) := by decide +kernel
theorem dX2_putIn_55 : decode cX2_putIn 55 = .ok (.if_icmp .lt 18, 3) := by decide +kernel
theorem dX2_putIn_58 : decode cX2_putIn 58 = .ok (.aload_n 0, 1) := by decide +kernel
theorem dX2_putIn_59 : decode cX2_putIn 59 = .ok (.getfield 11, 3) := by decide +kernel
theorem dX2_putIn_62 : decode cX2_putIn 62 = .ok (.aload_n 1, 1) := by decide +kernel
theorem dX2_putIn_63 : decode cX2_putIn 63 = .ok (.getfield 61, 3) := by decide +kernel
theorem dX2_putIn_66 : decode cX2_putIn 66 = .ok (.iconst 3, 1) := by decide +kernel
theorem dX2_putIn_67 : decode cX2_putIn 67 = .ok (.isub, 1) := by decide +kernel
theorem dX2_putIn_68 : decode cX2_putIn 68 = .ok (.aaload, 1) := by decide +kernel
theorem dX2_putIn_69 : decode cX2_putIn 69 = .ok (.aload_n 1, 1) := by decide +kernel
theorem dX2_putIn_70 : decode cX2_putIn 70 = .ok (.invokevirtual 68, 3) := by decide +kernel
theorem dX2_putIn_73 : decode cX2_putIn 73 = .ok (.return_, 1) := by decide +kernel
theorem dX2_pullOut_0 : decode cX2_pullOut 0 = .ok (.aload_n 0, 1) := by decide +kernel
theorem dX2_pullOut_1 : decode cX2_pullOut 1 = .ok (.aload_n 1, 1) := by decide +kernel
theorem dX2_pullOut_2 : decode cX2_pullOut 2 = .ok (.getfield 61, 3) := by decide +kernel
theorem dX2_pullOut_5 : decode cX2_pullOut 5 = .ok (.invokevirtual 72, 3) := by decide +kernel
theorem dX2_pullOut_8 : decode cX2_pullOut 8 = .ok (.astore_n 2, 1) := by decide +kernel
theorem dX2_pullOut_9 : decode cX2_pullOut 9 = .ok (.aload_n 2, 1) := by decide +kernel
theorem dX2_pullOut_10 : decode cX2_pullOut 10 = .ok (.ifnull 32, 3) := by decide +kernel
theorem dX2_pullOut_13 : decode cX2_pullOut 13 = .ok (.aload_n 2, 1) := by decide +kernel
theorem dX2_pullOut_14 : decode cX2_pullOut 14 = .ok (.aload_n 1, 1) := by decide +kernel
theorem dX2_pullOut_15 : decode cX2_pullOut 15 = .ok (.invokevirtual 73, 3) := by decide +kernel
theorem dX2_pullOut_18 : decode cX2_pullOut 18 = .ok (.aload_n 2, 1) := by decide +kernel
theorem dX2_pullOut_19 : decode cX2_pullOut 19 = .ok (.getfield 27, 3) := by decide +kernel
theorem dX2_pullOut_22 : decode cX2_pullOut 22 = .ok (.ifnonnull 20, 3) := by decide +kernel
theorem dX2_pullOut_25 : decode cX2_pullOut 25 = .ok (.aload_n 2, 1) := by decide +kernel
theorem dX2_pullOut_26 : decode cX2_pullOut 26 = .ok (.getfield 76, 3) := by decide +kernel
theorem dX2_pullOut_29 : decode cX2_pullOut 29 = .ok (.bipush 64, 2) := by decide +kernel
theorem dX2_pullOut_31 : decode cX2_pullOut 31 = .ok (.if_icmp .lt 11, 3) := by decide +kernel
theorem dX2_pullOut_34 : decode cX2_pullOut 34 = .ok (.aload_n 0, 1) := by decide +kernel
theorem dX2_pullOut_35 : decode cX2_pullOut 35 = .ok (.getfield 23, 3) := by decide +kernel
theorem dX2_pullOut_38 : decode cX2_pullOut 38 = .ok (.aload_n 2, 1) := by decide +kernel
theorem dX2_pullOut_39 : decode cX2_pullOut 39 = .ok (.invokevirtual 77, 3) := by decide +kernel
theorem dX2_pullOut_42 : decode cX2_pullOut 42 = .ok (.aload_n 1, 1) := by decide +kernel
theorem dX2_pullOut_43 : decode cX2_pullOut 43 = .ok (.iconst 0, 1) := by decide +kernel
theorem dX2_pullOut_44 : decode cX2_pullOut 44 = .ok (.putfield 48, 3) := by decide +kernel
theorem dX2_pullOut_47 : decode cX2_pullOut 47 = .ok (.return_, 1) := by decide +kernel
theorem dX2_wrongThings_0 : decode cX2_wrongThings 0 = .ok (.iconst 0, 1) := by decide +kernel
theorem dX2_wrongThings_1 : decode cX2_wrongThings 1 = .ok (.istore_n 3, 1) := by decide +kernel
theorem dX2_wrongThings_2 : decode cX2_wrongThings 2 = .ok (.iconst 0, 1) := by decide +kernel
theorem dX2_wrongThings_3 : decode cX2_wrongThings 3 = .ok (.istore 4, 2) := by decide +kernel
theorem dX2_wrongThings_5 : decode cX2_wrongThings 5 = .ok (.iconst 0, 1) := by decide +kernel
theorem dX2_wrongThings_6 : decode cX2_wrongThings 6 = .ok (.istore 5, 2) := by decide +kernel
theorem dX2_wrongThings_8 : decode cX2_wrongThings 8 = .ok (.iload 5, 2) := by decide +kernel
theorem dX2_wrongThings_10 : decode cX2_wrongThings 10 = .ok (.aload_n 0, 1) := by decide +kernel
theorem dX2_wrongThings_11 : decode cX2_wrongThings 11 = .ok (.getfield 11, 3) := by decide +kernel
theorem dX2_wrongThings_14 : decode cX2_wrongThings 14 = .ok (.arraylength, 1) := by decide +kernel
theorem dX2_wrongThings_15 : decode cX2_wrongThings 15 = .ok (.if_icmp .ge 39, 3) := by decide +kernel
theorem dX2_wrongThings_18 : decode cX2_wrongThings 18 = .ok (.iload_n 3, 1) := by decide +kernel
theorem dX2_wrongThings_19 : decode cX2_wrongThings 19 = .ok (.aload_n 0, 1) := by decide +kernel
theorem dX2_wrongThings_20 : decode cX2_wrongThings 20 = .ok (.getfield 11, 3) := by decide +kernel
theorem dX2_wrongThings_23 : decode cX2_wrongThings 23 = .ok (.iload 5, 2) := by decide +kernel
theorem dX2_wrongThings_25 : decode cX2_wrongThings 25 = .ok (.aaload, 1) := by decide +kernel
theorem dX2_wrongThings_26 : decode cX2_wrongThings 26 = .ok (.iload_n 2, 1) := by decide +kernel
theorem dX2_wrongThings_27 : decode cX2_wrongThings 27 = .ok (.invokestatic 81, 3) := by decide +kernel
theorem dX2_wrongThings_30 : decode cX2_wrongThings 30 = .ok (.iadd, 1) := by decide +kernel
theorem dX2_wrongThings_31 : decode cX2_wrongThings 31 = .ok (.istore_n 3, 1) := by decide +kernel
theorem dX2_wrongThings_32 : decode cX2_wrongThings 32 = .ok (.iload 4, 2) := by decide +kernel
theorem dX2_wrongThings_34 : decode cX2_wrongThings 34 = .ok (.aload_n 0, 1) := by decide +kernel
theorem dX2_wrongThings_35 : decode cX2_wrongThings 35 = .ok (.getfield 11, 3) := by decide +kernel
theorem dX2_wrongThings_38 : decode cX2_wrongThings 38 = .ok (.iload 5, 2) := by decide +kernel
theorem dX2_wrongThings_40 : decode cX2_wrongThings 40 = .ok (.aaload, 1) := by decide +kernel
theorem dX2_wrongThings_41 : decode cX2_wrongThings 41 = .ok (.iload_n 2, 1) := by decide +kernel
theorem dX2_wrongThings_42 : decode cX2_wrongThings 42 = .ok (.invokestatic 85, 3) := by decide +kernel
theorem dX2_wrongThings_45 : decode cX2_wrongThings 45 = .ok (.iadd, 1) := by decide +kernel
theorem dX2_wrongThings_46 : decode cX2_wrongThings 46 = .ok (.istore 4, 2) := by decide +kernel
theorem dX2_wrongThings_48 : decode cX2_wrongThings 48 = .ok (.iinc 5 1, 3) := by decide +kernel
theorem dX2_wrongThings_51 : decode cX2_wrongThings 51 = .ok (.goto (-43), 3) := by decide +kernel
theorem dX2_wrongThings_54 : decode cX2_wrongThings 54 = .ok (.aload_n 0, 1) := by decide +kernel
theorem dX2_wrongThings_55 : decode cX2_wrongThings 55 = .ok (.getfield 23, 3) := by decide +kernel
theorem dX2_wrongThings_58 : decode cX2_wrongThings 58 = .ok (.iconst 0, 1) := by decide +kernel
theorem dX2_wrongThings_59 : decode cX2_wrongThings 59 = .ok (.invokevirtual 45, 3) := by decide +kernel
theorem dX2_wrongThings_62 : decode cX2_wrongThings 62 = .ok (.astore 5, 2) := by decide +kernel
theorem dX2_wrongThings_64 : decode cX2_wrongThings 64 = .ok (.iconst 0, 1) := by decide +kernel
theorem dX2_wrongThings_65 : decode cX2_wrongThings 65 = .ok (.istore 6, 2) := by decide +kernel
theorem dX2_wrongThings_67 : decode cX2_wrongThings 67 = .ok (.aload 5, 2) := by decide +kernel
theorem dX2_wrongThings_69 : decode cX2_wrongThings 69 = .ok (.ifnull 72, 3) := by decide +kernel
theorem dX2_wrongThings_72 : decode cX2_wrongThings 72 = .ok (.iload 6, 2) := by decide +kernel
theorem dX2_wrongThings_74 : decode cX2_wrongThings 74 = .ok (.iload_n 2, 1) := by decide +kernel
theorem dX2_wrongThings_75 : decode cX2_wrongThings 75 = .ok (.if_icmp .ge 66, 3) := by decide +kernel
theorem dX2_wrongThings_78 : decode cX2_wrongThings 78 = .ok (.aload 5, 2) := by decide +kernel
theorem dX2_wrongThings_80 : decode cX2_wrongThings 80 = .ok (.getfield 76, 3) := by decide +kernel
theorem dX2_wrongThings_83 : decode cX2_wrongThings 83 = .ok (.bipush 64, 2) := by decide +kernel
theorem dX2_wrongThings_85 : decode cX2_wrongThings 85 = .ok (.if_icmp .lt 11, 3) := by decide +kernel
theorem dX2_wrongThings_88 : decode cX2_wrongThings 88 = .ok (.aload 5, 2) := by decide +kernel
theorem dX2_wrongThings_90 : decode cX2_wrongThings 90 = .ok (.getfield 27, 3) := by decide +kernel
theorem dX2_wrongThings_93 : decode cX2_wrongThings 93 = .ok (.ifnonnull 6, 3) := by decide +kernel
theorem dX2_wrongThings_96 : decode cX2_wrongThings 96 = .ok (.iinc 3 1, 3) := by decide +kernel
theorem dX2_wrongThings_99 : decode cX2_wrongThings 99 = .ok (.iload_n 3, 1) := by decide +kernel
theorem dX2_wrongThings_100 : decode cX2_wrongThings 100 = .ok (.aload 5, 2) := by decide +kernel
theorem dX2_wrongThings_102 : decode cX2_wrongThings 102 = .ok (.iload_n 2, 1) := by decide +kernel
theorem dX2_wrongThings_103 : decode cX2_wrongThings 103 = .ok (.invokestatic 81, 3) := by decide +kernel
theorem dX2_wrongThings_106 : decode cX2_wrongThings 106 = .ok (.iadd, 1) := by decide +kernel
theorem dX2_wrongThings_107 : decode cX2_wrongThings 107 = .ok (.istore_n 3, 1) := by decide +kernel
theorem dX2_wrongThings_108 : decode cX2_wrongThings 108 = .ok (.iload 4, 2) := by decide +kernel
theorem dX2_wrongThings_110 : decode cX2_wrongThings 110 = .ok (.aload 5, 2) := by decide +kernel
theorem dX2_wrongThings_112 : decode cX2_wrongThings 112 = .ok (.iload_n 2, 1) := by decide +kernel
theorem dX2_wrongThings_113 : decode cX2_wrongThings 113 = .ok (.invokestatic 85, 3) := by decide +kernel
theorem dX2_wrongThings_116 : decode cX2_wrongThings 116 = .ok (.iadd, 1) := by decide +kernel
theorem dX2_wrongThings_117 : decode cX2_wrongThings 117 = .ok (.istore 4, 2) := by decide +kernel
theorem dX2_wrongThings_119 : decode cX2_wrongThings 119 = .ok (.aload_n 0, 1) := by decide +kernel
theorem dX2_wrongThings_120 : decode cX2_wrongThings 120 = .ok (.getfield 23, 3) := by decide +kernel
theorem dX2_wrongThings_123 : decode cX2_wrongThings 123 = .ok (.aload 5, 2) := by decide +kernel
theorem dX2_wrongThings_125 : decode cX2_wrongThings 125 = .ok (.getfield 76, 3) := by decide +kernel
theorem dX2_wrongThings_128 : decode cX2_wrongThings 128 = .ok (.iconst 1, 1) := by decide +kernel
theorem dX2_wrongThings_129 : decode cX2_wrongThings 129 = .ok (.iadd, 1) := by decide +kernel
theorem dX2_wrongThings_130 : decode cX2_wrongThings 130 = .ok (.invokevirtual 45, 3) := by decide +kernel
theorem dX2_wrongThings_133 : decode cX2_wrongThings 133 = .ok (.astore 5, 2) := by decide +kernel
theorem dX2_wrongThings_135 : decode cX2_wrongThings 135 = .ok (.iinc 6 1, 3) := by decide +kernel
theorem dX2_wrongThings_138 : decode cX2_wrongThings 138 = .ok (.goto (-71), 3) := by decide +kernel
theorem dX2_wrongThings_141 : decode cX2_wrongThings 141 = .ok (.iload 4, 2) := by decide +kernel
theorem dX2_wrongThings_143 : decode cX2_wrongThings 143 = .ok (.iload_n 1, 1) := by decide +kernel
theorem dX2_wrongThings_144 : decode cX2_wrongThings 144 = .ok (.if_icmp .ne 7, 3) := by decide +kernel
theorem dX2_wrongThings_147 : decode cX2_wrongThings 147 = .ok (.iload_n 3, 1) := by decide +kernel
theorem dX2_wrongThings_148 : decode cX2_wrongThings 148 = .ok (.goto 6, 3) := by decide +kernel
theorem dX2_wrongThings_151 : decode cX2_wrongThings 151 = .ok (.iload_n 3, 1) := by decide +kernel
theorem dX2_wrongThings_152 : decode cX2_wrongThings 152 = .ok (.iconst 1, 1) := by decide +kernel
theorem dX2_wrongThings_153 : decode cX2_wrongThings 153 = .ok (.iadd, 1) := by decide +kernel
theorem dX2_wrongThings_154 : decode cX2_wrongThings 154 = .ok (.ireturn, 1) := by decide +kernel
theorem dX2_wrongInRow_0 : decode cX2_wrongInRow 0 = .ok (.iconst 0, 1) := by decide +kernel
theorem dX2_wrongInRow_1 : decode cX2_wrongInRow 1 = .ok (.istore_n 2, 1) := by decide +kernel
theorem dX2_wrongInRow_2 : decode cX2_wrongInRow 2 = .ok (.aload_n 0, 1) := by decide +kernel
theorem dX2_wrongInRow_3 : decode cX2_wrongInRow 3 = .ok (.getfield 27, 3) := by decide +kernel
theorem dX2_wrongInRow_6 : decode cX2_wrongInRow 6 = .ok (.astore_n 3, 1) := by decide +kernel
theorem dX2_wrongInRow_7 : decode cX2_wrongInRow 7 = .ok (.iconst 0, 1) := by decide +kernel
theorem dX2_wrongInRow_8 : decode cX2_wrongInRow 8 = .ok (.istore 4, 2) := by decide +kernel
theorem dX2_wrongInRow_10 : decode cX2_wrongInRow 10 = .ok (.aload_n 3, 1) := by decide +kernel
theorem dX2_wrongInRow_11 : decode cX2_wrongInRow 11 = .ok (.ifnull 71, 3) := by decide +kernel
theorem dX2_wrongInRow_14 : decode cX2_wrongInRow 14 = .ok (.iload 4, 2) := by decide +kernel
theorem dX2_wrongInRow_16 : decode cX2_wrongInRow 16 = .ok (.iload_n 1, 1) := by decide +kernel
theorem dX2_wrongInRow_17 : decode cX2_wrongInRow 17 = .ok (.if_icmp .ge 65, 3) := by decide +kernel
theorem dX2_wrongInRow_20 : decode cX2_wrongInRow 20 = .ok (.aload_n 3, 1) := by decide +kernel
theorem dX2_wrongInRow_21 : decode cX2_wrongInRow 21 = .ok (.getfield 88, 3) := by decide +kernel
theorem dX2_wrongInRow_24 : decode cX2_wrongInRow 24 = .ok (.ifCond .eq 14, 3) := by decide +kernel
theorem dX2_wrongInRow_27 : decode cX2_wrongInRow 27 = .ok (.aload_n 3, 1) := by decide +kernel
theorem dX2_wrongInRow_28 : decode cX2_wrongInRow 28 = .ok (.getfield 61, 3) := by decide +kernel
theorem dX2_wrongInRow_31 : decode cX2_wrongInRow 31 = .ok (.aload_n 0, 1) := by decide +kernel
theorem dX2_wrongInRow_32 : decode cX2_wrongInRow 32 = .ok (.getfield 76, 3) := by decide +kernel
theorem dX2_wrongInRow_35 : decode cX2_wrongInRow 35 = .ok (.if_icmp .eq 6, 3) := by decide +kernel
theorem dX2_wrongInRow_38 : decode cX2_wrongInRow 38 = .ok (.iinc 2 1, 3) := by decide +kernel
theorem dX2_wrongInRow_41 : decode cX2_wrongInRow 41 = .ok (.aload_n 3, 1) := by decide +kernel
theorem dX2_wrongInRow_42 : decode cX2_wrongInRow 42 = .ok (.getfield 91, 3) := by decide +kernel
theorem dX2_wrongInRow_45 : decode cX2_wrongInRow 45 = .ok (.ifnull 21, 3) := by decide +kernel
theorem dX2_wrongInRow_48 : decode cX2_wrongInRow 48 = .ok (.aload_n 3, 1) := by decide +kernel
theorem dX2_wrongInRow_49 : decode cX2_wrongInRow 49 = .ok (.getfield 91, 3) := by decide +kernel
theorem dX2_wrongInRow_52 : decode cX2_wrongInRow 52 = .ok (.getfield 58, 3) := by decide +kernel
theorem dX2_wrongInRow_55 : decode cX2_wrongInRow 55 = .ok (.aload_n 3, 1) := by decide +kernel
theorem dX2_wrongInRow_56 : decode cX2_wrongInRow 56 = .ok (.getfield 58, 3) := by decide +kernel
theorem dX2_wrongInRow_59 : decode cX2_wrongInRow 59 = .ok (.lcmp, 1) := by decide +kernel
theorem dX2_wrongInRow_60 : decode cX2_wrongInRow 60 = .ok (.ifCond .lt 6, 3) := by decide +kernel
theorem dX2_wrongInRow_63 : decode cX2_wrongInRow 63 = .ok (.iinc 2 1, 3) := by decide +kernel
theorem dX2_wrongInRow_66 : decode cX2_wrongInRow 66 = .ok (.aload_n 3, 1) := by decide +kernel
theorem dX2_wrongInRow_67 : decode cX2_wrongInRow 67 = .ok (.iconst 0, 1) := by decide +kernel
theorem dX2_wrongInRow_68 : decode cX2_wrongInRow 68 = .ok (.putfield 88, 3) := by decide +kernel
theorem dX2_wrongInRow_71 : decode cX2_wrongInRow 71 = .ok (.aload_n 3, 1) := by decide +kernel
theorem dX2_wrongInRow_72 : decode cX2_wrongInRow 72 = .ok (.getfield 91, 3) := by decide +kernel
theorem dX2_wrongInRow_75 : decode cX2_wrongInRow 75 = .ok (.astore_n 3, 1) := by decide +kernel
theorem dX2_wrongInRow_76 : decode cX2_wrongInRow 76 = .ok (.iinc 4 1, 3) := by decide +kernel
theorem dX2_wrongInRow_79 : decode cX2_wrongInRow 79 = .ok (.goto (-69), 3) := by decide +kernel
theorem dX2_wrongInRow_82 : decode cX2_wrongInRow 82 = .ok (.iload_n 2, 1) := by decide +kernel
theorem dX2_wrongInRow_83 : decode cX2_wrongInRow 83 = .ok (.ireturn, 1) := by decide +kernel
theorem dX2_piecesIn_0 : decode cX2_piecesIn 0 = .ok (.iconst 0, 1) := by decide +kernel
theorem dX2_piecesIn_1 : decode cX2_piecesIn 1 = .ok (.istore_n 2, 1) := by decide +kernel
theorem dX2_piecesIn_2 : decode cX2_piecesIn 2 = .ok (.aload_n 0, 1) := by decide +kernel
theorem dX2_piecesIn_3 : decode cX2_piecesIn 3 = .ok (.getfield 27, 3) := by decide +kernel
theorem dX2_piecesIn_6 : decode cX2_piecesIn 6 = .ok (.astore_n 3, 1) := by decide +kernel
theorem dX2_piecesIn_7 : decode cX2_piecesIn 7 = .ok (.aload_n 3, 1) := by decide +kernel
theorem dX2_piecesIn_8 : decode cX2_piecesIn 8 = .ok (.ifnull 19, 3) := by decide +kernel
theorem dX2_piecesIn_11 : decode cX2_piecesIn 11 = .ok (.iload_n 2, 1) := by decide +kernel
theorem dX2_piecesIn_12 : decode cX2_piecesIn 12 = .ok (.iload_n 1, 1) := by decide +kernel
theorem dX2_piecesIn_13 : decode cX2_piecesIn 13 = .ok (.if_icmp .ge 14, 3) := by decide +kernel
theorem dX2_piecesIn_16 : decode cX2_piecesIn 16 = .ok (.iinc 2 1, 3) := by decide +kernel
theorem dX2_piecesIn_19 : decode cX2_piecesIn 19 = .ok (.aload_n 3, 1) := by decide +kernel
theorem dX2_piecesIn_20 : decode cX2_piecesIn 20 = .ok (.getfield 91, 3) := by decide +kernel
theorem dX2_piecesIn_23 : decode cX2_piecesIn 23 = .ok (.astore_n 3, 1) := by decide +kernel
theorem dX2_piecesIn_24 : decode cX2_piecesIn 24 = .ok (.goto (-17), 3) := by decide +kernel
theorem dX2_piecesIn_27 : decode cX2_piecesIn 27 = .ok (.iload_n 2, 1) := by decide +kernel
theorem dX2_piecesIn_28 : decode cX2_piecesIn 28 = .ok (.ireturn, 1) := by decide +kernel
theorem dX3_init_0 : decode cX3_init 0 = .ok (.aload_n 0, 1) := by decide +kernel
theorem dX3_init_1 : decode cX3_init 1 = .ok (.invokespecial 1, 3) := by decide +kernel
theorem dX3_init_4 : decode cX3_init 4 = .ok (.return_, 1) := by decide +kernel
theorem dX3_rowOf_0 : decode cX3_rowOf 0 = .ok (.aload_n 0, 1) := by decide +kernel
theorem dX3_rowOf_1 : decode cX3_rowOf 1 = .ok (.getfield 7, 3) := by decide +kernel
theorem dX3_rowOf_4 : decode cX3_rowOf 4 = .ok (.astore_n 2, 1) := by decide +kernel
theorem dX3_rowOf_5 : decode cX3_rowOf 5 = .ok (.aload_n 2, 1) := by decide +kernel
theorem dX3_rowOf_6 : decode cX3_rowOf 6 = .ok (.ifnull 34, 3) := by decide +kernel
theorem dX3_rowOf_9 : decode cX3_rowOf 9 = .ok (.aload_n 2, 1) := by decide +kernel
theorem dX3_rowOf_10 : decode cX3_rowOf 10 = .ok (.getfield 13, 3) := by decide +kernel
theorem dX3_rowOf_13 : decode cX3_rowOf 13 = .ok (.iload_n 1, 1) := by decide +kernel
theorem dX3_rowOf_14 : decode cX3_rowOf 14 = .ok (.if_icmp .eq 26, 3) := by decide +kernel
theorem dX3_rowOf_17 : decode cX3_rowOf 17 = .ok (.iload_n 1, 1) := by decide +kernel
theorem dX3_rowOf_18 : decode cX3_rowOf 18 = .ok (.aload_n 2, 1) := by decide +kernel
theorem dX3_rowOf_19 : decode cX3_rowOf 19 = .ok (.getfield 13, 3) := by decide +kernel
theorem dX3_rowOf_22 : decode cX3_rowOf 22 = .ok (.if_icmp .ge 10, 3) := by decide +kernel
theorem dX3_rowOf_25 : decode cX3_rowOf 25 = .ok (.aload_n 2, 1) := by decide +kernel
theorem dX3_rowOf_26 : decode cX3_rowOf 26 = .ok (.getfield 19, 3) := by decide +kernel
theorem dX3_rowOf_29 : decode cX3_rowOf 29 = .ok (.goto 7, 3) := by decide +kernel
theorem dX3_rowOf_32 : decode cX3_rowOf 32 = .ok (.aload_n 2, 1) := by decide +kernel
theorem dX3_rowOf_33 : decode cX3_rowOf 33 = .ok (.getfield 22, 3) := by decide +kernel
theorem dX3_rowOf_36 : decode cX3_rowOf 36 = .ok (.astore_n 2, 1) := by decide +kernel
theorem dX3_rowOf_37 : decode cX3_rowOf 37 = .ok (.goto (-32), 3) := by decide +kernel
theorem dX3_rowOf_40 : decode cX3_rowOf 40 = .ok (.aload_n 2, 1) := by decide +kernel
theorem dX3_rowOf_41 : decode cX3_rowOf 41 = .ok (.areturn, 1) := by decide +kernel
theorem dX3_leastFrom_0 : decode cX3_leastFrom 0 = .ok (.aconst_null, 1) := by decide +kernel
theorem dX3_leastFrom_1 : decode cX3_leastFrom 1 = .ok (.astore_n 2, 1) := by decide +kernel
theorem dX3_leastFrom_2 : decode cX3_leastFrom 2 = .ok (.aload_n 0, 1) := by decide +kernel
theorem dX3_leastFrom_3 : decode cX3_leastFrom 3 = .ok (.getfield 7, 3) := by decide +kernel
theorem dX3_leastFrom_6 : decode cX3_leastFrom 6 = .ok (.astore_n 3, 1) := by decide +kernel
theorem dX3_leastFrom_7 : decode cX3_leastFrom 7 = .ok (.aload_n 3, 1) := by decide +kernel
theorem dX3_leastFrom_8 : decode cX3_leastFrom 8 = .ok (.ifnull 29, 3) := by decide +kernel
theorem dX3_leastFrom_11 : decode cX3_leastFrom 11 = .ok (.aload_n 3, 1) := by decide +kernel
theorem dX3_leastFrom_12 : decode cX3_leastFrom 12 = .ok (.getfield 13, 3) := by decide +kernel
theorem dX3_leastFrom_15 : decode cX3_leastFrom 15 = .ok (.iload_n 1, 1) := by decide +kernel
theorem dX3_leastFrom_16 : decode cX3_leastFrom 16 = .ok (.if_icmp .lt 13, 3) := by decide +kernel
theorem dX3_leastFrom_19 : decode cX3_leastFrom 19 = .ok (.aload_n 3, 1) := by decide +kernel
theorem dX3_leastFrom_20 : decode cX3_leastFrom 20 = .ok (.astore_n 2, 1) := by decide +kernel
theorem dX3_leastFrom_21 : decode cX3_leastFrom 21 = .ok (.aload_n 3, 1) := by decide +kernel
theorem dX3_leastFrom_22 : decode cX3_leastFrom 22 = .ok (.getfield 19, 3) := by decide +kernel
theorem dX3_leastFrom_25 : decode cX3_leastFrom 25 = .ok (.astore_n 3, 1) := by decide +kernel
theorem dX3_leastFrom_26 : decode cX3_leastFrom 26 = .ok (.goto (-19), 3) := by decide +kernel
theorem dX3_leastFrom_29 : decode cX3_leastFrom 29 = .ok (.aload_n 3, 1) := by decide +kernel
theorem dX3_leastFrom_30 : decode cX3_leastFrom 30 = .ok (.getfield 22, 3) := by decide +kernel
theorem dX3_leastFrom_33 : decode cX3_leastFrom 33 = .ok (.astore_n 3, 1) := by decide +kernel
theorem dX3_leastFrom_34 : decode cX3_leastFrom 34 = .ok (.goto (-27), 3) := by decide +kernel
theorem dX3_leastFrom_37 : decode cX3_leastFrom 37 = .ok (.aload_n 2, 1) := by decide +kernel
theorem dX3_leastFrom_38 : decode cX3_leastFrom 38 = .ok (.areturn, 1) := by decide +kernel
theorem dX3_rowMadeFor_0 : decode cX3_rowMadeFor 0 = .ok (.aload_n 0, 1) := by decide +kernel
theorem dX3_rowMadeFor_1 : decode cX3_rowMadeFor 1 = .ok (.iload_n 1, 1) := by decide +kernel
theorem dX3_rowMadeFor_2 : decode cX3_rowMadeFor 2 = .ok (.invokevirtual 25, 3) := by decide +kernel
theorem dX3_rowMadeFor_5 : decode cX3_rowMadeFor 5 = .ok (.astore_n 2, 1) := by decide +kernel
theorem dX3_rowMadeFor_6 : decode cX3_rowMadeFor 6 = .ok (.aload_n 2, 1) := by decide +kernel
theorem dX3_rowMadeFor_7 : decode cX3_rowMadeFor 7 = .ok (.ifnonnull 23, 3) := by decide +kernel
theorem dX3_rowMadeFor_10 : decode cX3_rowMadeFor 10 = .ok (.new 14, 3) := by decide +kernel
theorem dX3_rowMadeFor_13 : decode cX3_rowMadeFor 13 = .ok (.dup, 1) := by decide +kernel
theorem dX3_rowMadeFor_14 : decode cX3_rowMadeFor 14 = .ok (.iload_n 1, 1) := by decide +kernel
theorem dX3_rowMadeFor_15 : decode cX3_rowMadeFor 15 = .ok (.invokespecial 29, 3) := by decide +kernel
theorem dX3_rowMadeFor_18 : decode cX3_rowMadeFor 18 = .ok (.astore_n 2, 1) := by decide +kernel
theorem dX3_rowMadeFor_19 : decode cX3_rowMadeFor 19 = .ok (.aload_n 0, 1) := by decide +kernel
theorem dX3_rowMadeFor_20 : decode cX3_rowMadeFor 20 = .ok (.aload_n 0, 1) := by decide +kernel
theorem dX3_rowMadeFor_21 : decode cX3_rowMadeFor 21 = .ok (.iload_n 1, 1) := by decide +kernel
theorem dX3_rowMadeFor_22 : decode cX3_rowMadeFor 22 = .ok (.invokevirtual 32, 3) := by decide +kernel
theorem dX3_rowMadeFor_25 : decode cX3_rowMadeFor 25 = .ok (.iload_n 1, 1) := by decide +kernel
theorem dX3_rowMadeFor_26 : decode cX3_rowMadeFor 26 = .ok (.aload_n 2, 1) := by decide +kernel
theorem dX3_rowMadeFor_27 : decode cX3_rowMadeFor 27 = .ok (.invokevirtual 35, 3) := by decide +kernel
theorem dX3_rowMadeFor_30 : decode cX3_rowMadeFor 30 = .ok (.aload_n 2, 1) := by decide +kernel
theorem dX3_rowMadeFor_31 : decode cX3_rowMadeFor 31 = .ok (.areturn, 1) := by decide +kernel
theorem dX3_remove_0 : decode cX3_remove 0 = .ok (.aload_n 0, 1) := by decide +kernel
theorem dX3_remove_1 : decode cX3_remove 1 = .ok (.aload_n 0, 1) := by decide +kernel
theorem dX3_remove_2 : decode cX3_remove 2 = .ok (.aload_n 1, 1) := by decide +kernel
theorem dX3_remove_3 : decode cX3_remove 3 = .ok (.getfield 13, 3) := by decide +kernel
theorem dX3_remove_6 : decode cX3_remove 6 = .ok (.invokevirtual 32, 3) := by decide +kernel
theorem dX3_remove_9 : decode cX3_remove 9 = .ok (.aload_n 1, 1) := by decide +kernel
theorem dX3_remove_10 : decode cX3_remove 10 = .ok (.getfield 13, 3) := by decide +kernel
theorem dX3_remove_13 : decode cX3_remove 13 = .ok (.aload_n 1, 1) := by decide +kernel
theorem dX3_remove_14 : decode cX3_remove 14 = .ok (.invokestatic 39, 3) := by decide +kernel
theorem dX3_remove_17 : decode cX3_remove 17 = .ok (.invokevirtual 35, 3) := by decide +kernel
theorem dX3_remove_20 : decode cX3_remove 20 = .ok (.return_, 1) := by decide +kernel
theorem dX3_parentFor_0 : decode cX3_parentFor 0 = .ok (.aconst_null, 1) := by decide +kernel
theorem dX3_parentFor_1 : decode cX3_parentFor 1 = .ok (.astore_n 2, 1) := by decide +kernel
theorem dX3_parentFor_2 : decode cX3_parentFor 2 = .ok (.aload_n 0, 1) := by decide +kernel
theorem dX3_parentFor_3 : decode cX3_parentFor 3 = .ok (.getfield 7, 3) := by decide +kernel
theorem dX3_parentFor_6 : decode cX3_parentFor 6 = .ok (.astore_n 3, 1) := by decide +kernel
theorem dX3_parentFor_7 : decode cX3_parentFor 7 = .ok (.aload_n 3, 1) := by decide +kernel
theorem dX3_parentFor_8 : decode cX3_parentFor 8 = .ok (.ifnull 36, 3) := by decide +kernel
theorem dX3_parentFor_11 : decode cX3_parentFor 11 = .ok (.aload_n 3, 1) := by decide +kernel
theorem dX3_parentFor_12 : decode cX3_parentFor 12 = .ok (.getfield 13, 3) := by decide +kernel
theorem dX3_parentFor_15 : decode cX3_parentFor 15 = .ok (.iload_n 1, 1) := by decide +kernel
theorem dX3_parentFor_16 : decode cX3_parentFor 16 = .ok (.if_icmp .eq 28, 3) := by decide +kernel
theorem dX3_parentFor_19 : decode cX3_parentFor 19 = .ok (.aload_n 3, 1) := by decide +kernel
theorem dX3_parentFor_20 : decode cX3_parentFor 20 = .ok (.astore_n 2, 1) := by decide +kernel
theorem dX3_parentFor_21 : decode cX3_parentFor 21 = .ok (.iload_n 1, 1) := by decide +kernel
theorem dX3_parentFor_22 : decode cX3_parentFor 22 = .ok (.aload_n 3, 1) := by decide +kernel
theorem dX3_parentFor_23 : decode cX3_parentFor 23 = .ok (.getfield 13, 3) := by decide +kernel
theorem dX3_parentFor_26 : decode cX3_parentFor 26 = .ok (.if_icmp .ge 10, 3) := by decide +kernel
theorem dX3_parentFor_29 : decode cX3_parentFor 29 = .ok (.aload_n 3, 1) := by decide +kernel
theorem dX3_parentFor_30 : decode cX3_parentFor 30 = .ok (.getfield 19, 3) := by decide +kernel
theorem dX3_parentFor_33 : decode cX3_parentFor 33 = .ok (.goto 7, 3) := by decide +kernel
theorem dX3_parentFor_36 : decode cX3_parentFor 36 = .ok (.aload_n 3, 1) := by decide +kernel
theorem dX3_parentFor_37 : decode cX3_parentFor 37 = .ok (.getfield 22, 3) := by decide +kernel
theorem dX3_parentFor_40 : decode cX3_parentFor 40 = .ok (.astore_n 3, 1) := by decide +kernel
theorem dX3_parentFor_41 : decode cX3_parentFor 41 = .ok (.goto (-34), 3) := by decide +kernel
theorem dX3_parentFor_44 : decode cX3_parentFor 44 = .ok (.aload_n 2, 1) := by decide +kernel
theorem dX3_parentFor_45 : decode cX3_parentFor 45 = .ok (.areturn, 1) := by decide +kernel
theorem dX3_hang_0 : decode cX3_hang 0 = .ok (.aload_n 1, 1) := by decide +kernel
theorem dX3_hang_1 : decode cX3_hang 1 = .ok (.ifnonnull 11, 3) := by decide +kernel
theorem dX3_hang_4 : decode cX3_hang 4 = .ok (.aload_n 0, 1) := by decide +kernel
theorem dX3_hang_5 : decode cX3_hang 5 = .ok (.aload_n 3, 1) := by decide +kernel
theorem dX3_hang_6 : decode cX3_hang 6 = .ok (.putfield 7, 3) := by decide +kernel
theorem dX3_hang_9 : decode cX3_hang 9 = .ok (.goto 24, 3) := by decide +kernel
theorem dX3_hang_12 : decode cX3_hang 12 = .ok (.iload_n 2, 1) := by decide +kernel
theorem dX3_hang_13 : decode cX3_hang 13 = .ok (.aload_n 1, 1) := by decide +kernel
theorem dX3_hang_14 : decode cX3_hang 14 = .ok (.getfield 13, 3) := by decide +kernel
theorem dX3_hang_17 : decode cX3_hang 17 = .ok (.if_icmp .ge 11, 3) := by decide +kernel
theorem dX3_hang_20 : decode cX3_hang 20 = .ok (.aload_n 1, 1) := by decide +kernel
theorem dX3_hang_21 : decode cX3_hang 21 = .ok (.aload_n 3, 1) := by decide +kernel
theorem dX3_hang_22 : decode cX3_hang 22 = .ok (.putfield 19, 3) := by decide +kernel
theorem dX3_hang_25 : decode cX3_hang 25 = .ok (.goto 8, 3) := by decide +kernel
theorem dX3_hang_28 : decode cX3_hang 28 = .ok (.aload_n 1, 1) := by decide +kernel
theorem dX3_hang_29 : decode cX3_hang 29 = .ok (.aload_n 3, 1) := by decide +kernel
theorem dX3_hang_30 : decode cX3_hang 30 = .ok (.putfield 22, 3) := by decide +kernel
theorem dX3_hang_33 : decode cX3_hang 33 = .ok (.return_, 1) := by decide +kernel
theorem dX3_heirOf_0 : decode cX3_heirOf 0 = .ok (.aload_n 0, 1) := by decide +kernel
theorem dX3_heirOf_1 : decode cX3_heirOf 1 = .ok (.getfield 22, 3) := by decide +kernel
theorem dX3_heirOf_4 : decode cX3_heirOf 4 = .ok (.ifnonnull 8, 3) := by decide +kernel
theorem dX3_heirOf_7 : decode cX3_heirOf 7 = .ok (.aload_n 0, 1) := by decide +kernel
theorem dX3_heirOf_8 : decode cX3_heirOf 8 = .ok (.getfield 19, 3) := by decide +kernel
theorem dX3_heirOf_11 : decode cX3_heirOf 11 = .ok (.areturn, 1) := by decide +kernel
theorem dX3_heirOf_12 : decode cX3_heirOf 12 = .ok (.aload_n 0, 1) := by decide +kernel
theorem dX3_heirOf_13 : decode cX3_heirOf 13 = .ok (.getfield 22, 3) := by decide +kernel
theorem dX3_heirOf_16 : decode cX3_heirOf 16 = .ok (.astore_n 1, 1) := by decide +kernel
theorem dX3_heirOf_17 : decode cX3_heirOf 17 = .ok (.aload_n 1, 1) := by decide +kernel
theorem dX3_heirOf_18 : decode cX3_heirOf 18 = .ok (.getfield 19, 3) := by decide +kernel
theorem dX3_heirOf_21 : decode cX3_heirOf 21 = .ok (.ifnull 11, 3) := by decide +kernel
theorem dX3_heirOf_24 : decode cX3_heirOf 24 = .ok (.aload_n 1, 1) := by decide +kernel
theorem dX3_heirOf_25 : decode cX3_heirOf 25 = .ok (.getfield 19, 3) := by decide +kernel
theorem dX3_heirOf_28 : decode cX3_heirOf 28 = .ok (.astore_n 1, 1) := by decide +kernel
theorem dX3_heirOf_29 : decode cX3_heirOf 29 = .ok (.goto (-12), 3) := by decide +kernel
theorem dX3_heirOf_32 : decode cX3_heirOf 32 = .ok (.aload_n 1, 1) := by decide +kernel
theorem dX3_heirOf_33 : decode cX3_heirOf 33 = .ok (.aload_n 0, 1) := by decide +kernel
theorem dX3_heirOf_34 : decode cX3_heirOf 34 = .ok (.getfield 19, 3) := by decide +kernel
theorem dX3_heirOf_37 : decode cX3_heirOf 37 = .ok (.putfield 19, 3) := by decide +kernel
theorem dX3_heirOf_40 : decode cX3_heirOf 40 = .ok (.aload_n 0, 1) := by decide +kernel
theorem dX3_heirOf_41 : decode cX3_heirOf 41 = .ok (.getfield 22, 3) := by decide +kernel
theorem dX3_heirOf_44 : decode cX3_heirOf 44 = .ok (.areturn, 1) := by decide +kernel
theorem dX4_init_0 : decode cX4_init 0 = .ok (.aload_n 0, 1) := by decide +kernel
theorem dX4_init_1 : decode cX4_init 1 = .ok (.invokespecial 1, 3) := by decide +kernel
theorem dX4_init_4 : decode cX4_init 4 = .ok (.aload_n 0, 1) := by decide +kernel
theorem dX4_init_5 : decode cX4_init 5 = .ok (.new 7, 3) := by decide +kernel
theorem dX4_init_8 : decode cX4_init 8 = .ok (.dup, 1) := by decide +kernel
theorem dX4_init_9 : decode cX4_init 9 = .ok (.invokespecial 9, 3) := by decide +kernel
theorem dX4_init_12 : decode cX4_init 12 = .ok (.putfield 10, 3) := by decide +kernel
theorem dX4_init_15 : decode cX4_init 15 = .ok (.aload_n 0, 1) := by decide +kernel
theorem dX4_init_16 : decode cX4_init 16 = .ok (.sipush 1024, 3) := by decide +kernel
theorem dX4_init_19 : decode cX4_init 19 = .ok (.invokevirtual 16, 3) := by decide +kernel
theorem dX4_init_22 : decode cX4_init 22 = .ok (.return_, 1) := by decide +kernel
theorem dX4_space_0 : decode cX4_space 0 = .ok (.iload_n 1, 1) := by decide +kernel
theorem dX4_space_1 : decode cX4_space 1 = .ok (.bipush 16, 2) := by decide +kernel
theorem dX4_space_3 : decode cX4_space 3 = .ok (.if_icmp .lt 10, 3) := by decide +kernel
theorem dX4_space_6 : decode cX4_space 6 = .ok (.iload_n 1, 1) := by decide +kernel
theorem dX4_space_7 : decode cX4_space 7 = .ok (.sipush 16384, 3) := by decide +kernel
theorem dX4_space_10 : decode cX4_space 10 = .ok (.if_icmp .le 13, 3) := by decide +kernel
theorem dX4_space_13 : decode cX4_space 13 = .ok (.new 20, 3) := by decide +kernel
theorem dX4_space_16 : decode cX4_space 16 = .ok (.dup, 1) := by decide +kernel
theorem dX4_space_17 : decode cX4_space 17 = .ok (.ldc 22, 2) := by decide +kernel
theorem dX4_space_19 : decode cX4_space 19 = .ok (.invokespecial 24, 3) := by decide +kernel
theorem dX4_space_22 : decode cX4_space 22 = .ok (.athrow, 1) := by decide +kernel
theorem dX4_space_23 : decode cX4_space 23 = .ok (.aload_n 0, 1) := by decide +kernel
theorem dX4_space_24 : decode cX4_space 24 = .ok (.getfield 27, 3) := by decide +kernel
theorem dX4_space_27 : decode cX4_space 27 = .ok (.istore_n 2, 1) := by decide +kernel
theorem dX4_space_28 : decode cX4_space 28 = .ok (.aload_n 0, 1) := by decide +kernel
theorem dX4_space_29 : decode cX4_space 29 = .ok (.iload_n 1, 1) := by decide +kernel
theorem dX4_space_30 : decode cX4_space 30 = .ok (.invokevirtual 16, 3) := by decide +kernel
theorem dX4_space_33 : decode cX4_space 33 = .ok (.iload_n 2, 1) := by decide +kernel
theorem dX4_space_34 : decode cX4_space 34 = .ok (.ireturn, 1) := by decide +kernel
theorem dX4_take_0 : decode cX4_take 0 = .ok (.iload_n 1, 1) := by decide +kernel
theorem dX4_take_1 : decode cX4_take 1 = .ok (.invokestatic 31, 3) := by decide +kernel
theorem dX4_take_4 : decode cX4_take 4 = .ok (.aload_n 0, 1) := by decide +kernel
theorem dX4_take_5 : decode cX4_take 5 = .ok (.getfield 10, 3) := by decide +kernel
theorem dX4_take_8 : decode cX4_take 8 = .ok (.iload_n 1, 1) := by decide +kernel
theorem dX4_take_9 : decode cX4_take 9 = .ok (.invokevirtual 34, 3) := by decide +kernel
theorem dX4_take_12 : decode cX4_take 12 = .ok (.astore_n 2, 1) := by decide +kernel
theorem dX4_take_13 : decode cX4_take 13 = .ok (.aload_n 2, 1) := by decide +kernel
theorem dX4_take_14 : decode cX4_take 14 = .ok (.ifnonnull 15, 3) := by decide +kernel
theorem dX4_take_17 : decode cX4_take 17 = .ok (.aload_n 0, 1) := by decide +kernel
theorem dX4_take_18 : decode cX4_take 18 = .ok (.dup, 1) := by decide +kernel
theorem dX4_take_19 : decode cX4_take 19 = .ok (.getfield 38, 3) := by decide +kernel
theorem dX4_take_22 : decode cX4_take 22 = .ok (.iconst 1, 1) := by decide +kernel
theorem dX4_take_23 : decode cX4_take 23 = .ok (.iadd, 1) := by decide +kernel
theorem dX4_take_24 : decode cX4_take 24 = .ok (.putfield 38, 3) := by decide +kernel
theorem dX4_take_27 : decode cX4_take 27 = .ok (.iconst 0, 1) := by decide +kernel
theorem dX4_take_28 : decode cX4_take 28 = .ok (.ireturn, 1) := by decide +kernel
theorem dX4_take_29 : decode cX4_take 29 = .ok (.aload_n 0, 1) := by decide +kernel
theorem dX4_take_30 : decode cX4_take 30 = .ok (.getfield 10, 3) := by decide +kernel
theorem dX4_take_33 : decode cX4_take 33 = .ok (.aload_n 2, 1) := by decide +kernel
theorem dX4_take_34 : decode cX4_take 34 = .ok (.invokevirtual 41, 3) := by decide +kernel
theorem dX4_take_37 : decode cX4_take 37 = .ok (.aload_n 2, 1) := by decide +kernel
theorem dX4_take_38 : decode cX4_take 38 = .ok (.getfield 45, 3) := by decide +kernel
theorem dX4_take_41 : decode cX4_take 41 = .ok (.iload_n 1, 1) := by decide +kernel
theorem dX4_take_42 : decode cX4_take 42 = .ok (.if_icmp .le 9, 3) := by decide +kernel
theorem dX4_take_45 : decode cX4_take 45 = .ok (.aload_n 0, 1) := by decide +kernel
theorem dX4_take_46 : decode cX4_take 46 = .ok (.aload_n 2, 1) := by decide +kernel
theorem dX4_take_47 : decode cX4_take 47 = .ok (.iload_n 1, 1) := by decide +kernel
theorem dX4_take_48 : decode cX4_take 48 = .ok (.invokevirtual 50, 3) := by decide +kernel
theorem dX4_take_51 : decode cX4_take 51 = .ok (.aload_n 2, 1) := by decide +kernel
theorem dX4_take_52 : decode cX4_take 52 = .ok (.getfield 54, 3) := by decide +kernel
theorem dX4_take_55 : decode cX4_take 55 = .ok (.ireturn, 1) := by decide +kernel
theorem dX4_give_0 : decode cX4_give 0 = .ok (.aload_n 0, 1) := by decide +kernel
theorem dX4_give_1 : decode cX4_give 1 = .ok (.iload_n 1, 1) := by decide +kernel
theorem dX4_give_2 : decode cX4_give 2 = .ok (.invokevirtual 57, 3) := by decide +kernel
theorem dX4_give_5 : decode cX4_give 5 = .ok (.astore_n 2, 1) := by decide +kernel
theorem dX4_give_6 : decode cX4_give 6 = .ok (.aload_n 2, 1) := by decide +kernel
theorem dX4_give_7 : decode cX4_give 7 = .ok (.ifnull 10, 3) := by decide +kernel
theorem dX4_give_10 : decode cX4_give 10 = .ok (.aload_n 2, 1) := by decide +kernel
theorem dX4_give_11 : decode cX4_give 11 = .ok (.getfield 60, 3) := by decide +kernel
theorem dX4_give_14 : decode cX4_give 14 = .ok (.ifCond .eq 13, 3) := by decide +kernel
theorem dX4_give_17 : decode cX4_give 17 = .ok (.new 64, 3) := by decide +kernel
theorem dX4_give_20 : decode cX4_give 20 = .ok (.dup, 1) := by decide +kernel
theorem dX4_give_21 : decode cX4_give 21 = .ok (.ldc 66, 2) := by decide +kernel
theorem dX4_give_23 : decode cX4_give 23 = .ok (.invokespecial 68, 3) := by decide +kernel
theorem dX4_give_26 : decode cX4_give 26 = .ok (.athrow, 1) := by decide +kernel
theorem dX4_give_27 : decode cX4_give 27 = .ok (.aload_n 0, 1) := by decide +kernel
theorem dX4_give_28 : decode cX4_give 28 = .ok (.getfield 10, 3) := by decide +kernel
theorem dX4_give_31 : decode cX4_give 31 = .ok (.aload_n 2, 1) := by decide +kernel
theorem dX4_give_32 : decode cX4_give 32 = .ok (.invokevirtual 69, 3) := by decide +kernel
theorem dX4_give_35 : decode cX4_give 35 = .ok (.aload_n 2, 1) := by decide +kernel
theorem dX4_give_36 : decode cX4_give 36 = .ok (.getfield 45, 3) := by decide +kernel
theorem dX4_give_39 : decode cX4_give 39 = .ok (.ireturn, 1) := by decide +kernel
theorem dX4_join_0 : decode cX4_join 0 = .ok (.aload_n 0, 1) := by decide +kernel
theorem dX4_join_1 : decode cX4_join 1 = .ok (.iload_n 1, 1) := by decide +kernel
theorem dX4_join_2 : decode cX4_join 2 = .ok (.invokevirtual 57, 3) := by decide +kernel
theorem dX4_join_5 : decode cX4_join 5 = .ok (.astore_n 2, 1) := by decide +kernel
theorem dX4_join_6 : decode cX4_join 6 = .ok (.aload_n 2, 1) := by decide +kernel
theorem dX4_join_7 : decode cX4_join 7 = .ok (.ifnull 10, 3) := by decide +kernel
theorem dX4_join_10 : decode cX4_join 10 = .ok (.aload_n 2, 1) := by decide +kernel
theorem dX4_join_11 : decode cX4_join 11 = .ok (.getfield 60, 3) := by decide +kernel
theorem dX4_join_14 : decode cX4_join 14 = .ok (.ifCond .ne 13, 3) := by decide +kernel
theorem dX4_join_17 : decode cX4_join 17 = .ok (.new 64, 3) := by decide +kernel
theorem dX4_join_20 : decode cX4_join 20 = .ok (.dup, 1) := by decide +kernel
theorem dX4_join_21 : decode cX4_join 21 = .ok (.ldc 72, 2) := by decide +kernel
theorem dX4_join_23 : decode cX4_join 23 = .ok (.invokespecial 68, 3) := by decide +kernel
theorem dX4_join_26 : decode cX4_join 26 = .ok (.athrow, 1) := by decide +kernel
theorem dX4_join_27 : decode cX4_join 27 = .ok (.aload_n 0, 1) := by decide +kernel
theorem dX4_join_28 : decode cX4_join 28 = .ok (.aload_n 2, 1) := by decide +kernel
theorem dX4_join_29 : decode cX4_join 29 = .ok (.invokevirtual 74, 3) := by decide +kernel
theorem dX4_join_32 : decode cX4_join 32 = .ok (.pop, 1) := by decide +kernel
theorem dX4_join_33 : decode cX4_join 33 = .ok (.aload_n 2, 1) := by decide +kernel
theorem dX4_join_34 : decode cX4_join 34 = .ok (.getfield 45, 3) := by decide +kernel
theorem dX4_join_37 : decode cX4_join 37 = .ok (.ireturn, 1) := by decide +kernel
theorem dX4_joinAll_0 : decode cX4_joinAll 0 = .ok (.iconst 0, 1) := by decide +kernel
theorem dX4_joinAll_1 : decode cX4_joinAll 1 = .ok (.istore_n 1, 1) := by decide +kernel
theorem dX4_joinAll_2 : decode cX4_joinAll 2 = .ok (.aload_n 0, 1) := by decide +kernel
theorem dX4_joinAll_3 : decode cX4_joinAll 3 = .ok (.getfield 78, 3) := by decide +kernel
theorem dX4_joinAll_6 : decode cX4_joinAll 6 = .ok (.astore_n 2, 1) := by decide +kernel
theorem dX4_joinAll_7 : decode cX4_joinAll 7 = .ok (.aload_n 2, 1) := by decide +kernel
theorem dX4_joinAll_8 : decode cX4_joinAll 8 = .ok (.ifnull 26, 3) := by decide +kernel
theorem dX4_joinAll_11 : decode cX4_joinAll 11 = .ok (.aload_n 2, 1) := by decide +kernel
theorem dX4_joinAll_12 : decode cX4_joinAll 12 = .ok (.getfield 60, 3) := by decide +kernel
theorem dX4_joinAll_15 : decode cX4_joinAll 15 = .ok (.ifCond .eq 11, 3) := by decide +kernel
theorem dX4_joinAll_18 : decode cX4_joinAll 18 = .ok (.iload_n 1, 1) := by decide +kernel
theorem dX4_joinAll_19 : decode cX4_joinAll 19 = .ok (.aload_n 0, 1) := by decide +kernel
theorem dX4_joinAll_20 : decode cX4_joinAll 20 = .ok (.aload_n 2, 1) := by decide +kernel
theorem dX4_joinAll_21 : decode cX4_joinAll 21 = .ok (.invokevirtual 74, 3) := by decide +kernel
theorem dX4_joinAll_24 : decode cX4_joinAll 24 = .ok (.iadd, 1) := by decide +kernel
theorem dX4_joinAll_25 : decode cX4_joinAll 25 = .ok (.istore_n 1, 1) := by decide +kernel
theorem dX4_joinAll_26 : decode cX4_joinAll 26 = .ok (.aload_n 2, 1) := by decide +kernel
theorem dX4_joinAll_27 : decode cX4_joinAll 27 = .ok (.getfield 82, 3) := by decide +kernel
theorem dX4_joinAll_30 : decode cX4_joinAll 30 = .ok (.astore_n 2, 1) := by decide +kernel
theorem dX4_joinAll_31 : decode cX4_joinAll 31 = .ok (.goto (-24), 3) := by decide +kernel
theorem dX4_joinAll_34 : decode cX4_joinAll 34 = .ok (.iload_n 1, 1) := by decide +kernel
theorem dX4_joinAll_35 : decode cX4_joinAll 35 = .ok (.ireturn, 1) := by decide +kernel
theorem dX4_suffices_0 : decode cX4_suffices 0 = .ok (.iload_n 1, 1) := by decide +kernel
theorem dX4_suffices_1 : decode cX4_suffices 1 = .ok (.invokestatic 31, 3) := by decide +kernel
theorem dX4_suffices_4 : decode cX4_suffices 4 = .ok (.aload_n 0, 1) := by decide +kernel
theorem dX4_suffices_5 : decode cX4_suffices 5 = .ok (.getfield 10, 3) := by decide +kernel
theorem dX4_suffices_8 : decode cX4_suffices 8 = .ok (.iload_n 1, 1) := by decide +kernel
theorem dX4_suffices_9 : decode cX4_suffices 9 = .ok (.invokevirtual 34, 3) := by decide +kernel
theorem dX4_suffices_12 : decode cX4_suffices 12 = .ok (.astore_n 2, 1) := by decide +kernel
theorem dX4_suffices_13 : decode cX4_suffices 13 = .ok (.aload_n 2, 1) := by decide +kernel
theorem dX4_suffices_14 : decode cX4_suffices 14 = .ok (.ifnonnull 7, 3) := by decide +kernel
theorem dX4_suffices_17 : decode cX4_suffices 17 = .ok (.iconst 0, 1) := by decide +kernel
theorem dX4_suffices_18 : decode cX4_suffices 18 = .ok (.goto 7, 3) := by decide +kernel
theorem dX4_suffices_21 : decode cX4_suffices 21 = .ok (.aload_n 2, 1) := by decide +kernel
theorem dX4_suffices_22 : decode cX4_suffices 22 = .ok (.getfield 54, 3) := by decide +kernel
theorem dX4_suffices_25 : decode cX4_suffices 25 = .ok (.ireturn, 1) := by decide +kernel
theorem dX4_piece_0 : decode cX4_piece 0 = .ok (.aload_n 0, 1) := by decide +kernel
theorem dX4_piece_1 : decode cX4_piece 1 = .ok (.iload_n 1, 1) := by decide +kernel
theorem dX4_piece_2 : decode cX4_piece 2 = .ok (.invokevirtual 57, 3) := by decide +kernel
theorem dX4_piece_5 : decode cX4_piece 5 = .ok (.astore_n 2, 1) := by decide +kernel
theorem dX4_piece_6 : decode cX4_piece 6 = .ok (.aload_n 2, 1) := by decide +kernel
theorem dX4_piece_7 : decode cX4_piece 7 = .ok (.ifnonnull 5, 3) := by decide +kernel
theorem dX4_piece_10 : decode cX4_piece 10 = .ok (.iconst 0, 1) := by decide +kernel
theorem dX4_piece_11 : decode cX4_piece 11 = .ok (.ireturn, 1) := by decide +kernel
theorem dX4_piece_12 : decode cX4_piece 12 = .ok (.aload_n 2, 1) := by decide +kernel
theorem dX4_piece_13 : decode cX4_piece 13 = .ok (.getfield 60, 3) := by decide +kernel
theorem dX4_piece_16 : decode cX4_piece 16 = .ok (.ifCond .eq 11, 3) := by decide +kernel
theorem dX4_piece_19 : decode cX4_piece 19 = .ok (.aload_n 2, 1) := by decide +kernel
theorem dX4_piece_20 : decode cX4_piece 20 = .ok (.getfield 45, 3) := by decide +kernel
theorem dX4_piece_23 : decode cX4_piece 23 = .ok (.ineg, 1) := by decide +kernel
theorem dX4_piece_24 : decode cX4_piece 24 = .ok (.goto 7, 3) := by decide +kernel
theorem dX4_piece_27 : decode cX4_piece 27 = .ok (.aload_n 2, 1) := by decide +kernel
theorem dX4_piece_28 : decode cX4_piece 28 = .ok (.getfield 45, 3) := by decide +kernel
theorem dX4_piece_31 : decode cX4_piece 31 = .ok (.ireturn, 1) := by decide +kernel
theorem dX4_cover_0 : decode cX4_cover 0 = .ok (.aload_n 0, 1) := by decide +kernel
theorem dX4_cover_1 : decode cX4_cover 1 = .ok (.iload_n 1, 1) := by decide +kernel
theorem dX4_cover_2 : decode cX4_cover 2 = .ok (.invokevirtual 85, 3) := by decide +kernel
theorem dX4_cover_5 : decode cX4_cover 5 = .ok (.astore_n 2, 1) := by decide +kernel
theorem dX4_cover_6 : decode cX4_cover 6 = .ok (.aload_n 2, 1) := by decide +kernel
theorem dX4_cover_7 : decode cX4_cover 7 = .ok (.ifnonnull 7, 3) := by decide +kernel
theorem dX4_cover_10 : decode cX4_cover 10 = .ok (.iconst 0, 1) := by decide +kernel
theorem dX4_cover_11 : decode cX4_cover 11 = .ok (.goto 7, 3) := by decide +kernel
theorem dX4_cover_14 : decode cX4_cover 14 = .ok (.aload_n 2, 1) := by decide +kernel
theorem dX4_cover_15 : decode cX4_cover 15 = .ok (.getfield 54, 3) := by decide +kernel
theorem dX4_cover_18 : decode cX4_cover 18 = .ok (.ireturn, 1) := by decide +kernel
theorem dX4_free_0 : decode cX4_free 0 = .ok (.iload_n 2, 1) := by decide +kernel
theorem dX4_free_1 : decode cX4_free 1 = .ok (.ifCond .ge 13, 3) := by decide +kernel
theorem dX4_free_4 : decode cX4_free 4 = .ok (.new 20, 3) := by decide +kernel
theorem dX4_free_7 : decode cX4_free 7 = .ok (.dup, 1) := by decide +kernel
theorem dX4_free_8 : decode cX4_free 8 = .ok (.ldc 88, 2) := by decide +kernel
theorem dX4_free_10 : decode cX4_free 10 = .ok (.invokespecial 24, 3) := by decide +kernel
theorem dX4_free_13 : decode cX4_free 13 = .ok (.athrow, 1) := by decide +kernel
theorem dX4_free_14 : decode cX4_free 14 = .ok (.aload_n 0, 1) := by decide +kernel
theorem dX4_free_15 : decode cX4_free 15 = .ok (.getfield 10, 3) := by decide +kernel
theorem dX4_free_18 : decode cX4_free 18 = .ok (.iload_n 1, 1) := by decide +kernel
theorem dX4_free_19 : decode cX4_free 19 = .ok (.invokevirtual 90, 3) := by decide +kernel
theorem dX4_free_22 : decode cX4_free 22 = .ok (.astore_n 3, 1) := by decide +kernel
theorem dX4_free_23 : decode cX4_free 23 = .ok (.aload_n 3, 1) := by decide +kernel
theorem dX4_free_24 : decode cX4_free 24 = .ok (.ifnonnull 7, 3) := by decide +kernel
theorem dX4_free_27 : decode cX4_free 27 = .ok (.aconst_null, 1) := by decide +kernel
theorem dX4_free_28 : decode cX4_free 28 = .ok (.goto 8, 3) := by decide +kernel
theorem dX4_free_31 : decode cX4_free 31 = .ok (.aload_n 3, 1) := by decide +kernel
theorem dX4_free_32 : decode cX4_free 32 = .ok (.iload_n 2, 1) := by decide +kernel
theorem dX4_free_33 : decode cX4_free 33 = .ok (.invokevirtual 94, 3) := by decide +kernel
theorem dX4_free_36 : decode cX4_free 36 = .ok (.astore 4, 2) := by decide +kernel
theorem dX4_free_38 : decode cX4_free 38 = .ok (.aload 4, 2) := by decide +kernel
theorem dX4_free_40 : decode cX4_free 40 = .ok (.ifnonnull 7, 3) := by decide +kernel
theorem dX4_free_43 : decode cX4_free 43 = .ok (.iconst 0, 1) := by decide +kernel
theorem dX4_free_44 : decode cX4_free 44 = .ok (.goto 8, 3) := by decide +kernel
theorem dX4_free_47 : decode cX4_free 47 = .ok (.aload 4, 2) := by decide +kernel
theorem dX4_free_49 : decode cX4_free 49 = .ok (.getfield 54, 3) := by decide +kernel
theorem dX4_free_52 : decode cX4_free 52 = .ok (.ireturn, 1) := by decide +kernel
theorem dX4_count_0 : decode cX4_count 0 = .ok (.iload_n 1, 1) := by decide +kernel
theorem dX4_count_1 : decode cX4_count 1 = .ok (.tableswitch 87 0 7 #[47, 52, 57, 62, 67, 72, 77, 82], 47) := by decide +kernel
theorem dX4_count_48 : decode cX4_count 48 = .ok (.aload_n 0, 1) := by decide +kernel
theorem dX4_count_49 : decode cX4_count 49 = .ok (.invokevirtual 99, 3) := by decide +kernel
theorem dX4_count_52 : decode cX4_count 52 = .ok (.ireturn, 1) := by decide +kernel
theorem dX4_count_53 : decode cX4_count 53 = .ok (.aload_n 0, 1) := by decide +kernel
theorem dX4_count_54 : decode cX4_count 54 = .ok (.invokevirtual 103, 3) := by decide +kernel
theorem dX4_count_57 : decode cX4_count 57 = .ok (.ireturn, 1) := by decide +kernel
theorem dX4_count_58 : decode cX4_count 58 = .ok (.aload_n 0, 1) := by decide +kernel
theorem dX4_count_59 : decode cX4_count 59 = .ok (.invokevirtual 106, 3) := by decide +kernel
theorem dX4_count_62 : decode cX4_count 62 = .ok (.ireturn, 1) := by decide +kernel
theorem dX4_count_63 : decode cX4_count 63 = .ok (.aload_n 0, 1) := by decide +kernel
theorem dX4_count_64 : decode cX4_count 64 = .ok (.invokevirtual 109, 3) := by decide +kernel
theorem dX4_count_67 : decode cX4_count 67 = .ok (.ireturn, 1) := by decide +kernel
theorem dX4_count_68 : decode cX4_count 68 = .ok (.aload_n 0, 1) := by decide +kernel
theorem dX4_count_69 : decode cX4_count 69 = .ok (.invokevirtual 112, 3) := by decide +kernel
theorem dX4_count_72 : decode cX4_count 72 = .ok (.ireturn, 1) := by decide +kernel
theorem dX4_count_73 : decode cX4_count 73 = .ok (.aload_n 0, 1) := by decide +kernel
theorem dX4_count_74 : decode cX4_count 74 = .ok (.invokevirtual 115, 3) := by decide +kernel
theorem dX4_count_77 : decode cX4_count 77 = .ok (.ireturn, 1) := by decide +kernel
theorem dX4_count_78 : decode cX4_count 78 = .ok (.aload_n 0, 1) := by decide +kernel
theorem dX4_count_79 : decode cX4_count 79 = .ok (.getfield 38, 3) := by decide +kernel
theorem dX4_count_82 : decode cX4_count 82 = .ok (.ireturn, 1) := by decide +kernel
theorem dX4_count_83 : decode cX4_count 83 = .ok (.aload_n 0, 1) := by decide +kernel
theorem dX4_count_84 : decode cX4_count 84 = .ok (.getfield 27, 3) := by decide +kernel
theorem dX4_count_87 : decode cX4_count 87 = .ok (.ireturn, 1) := by decide +kernel
theorem dX4_count_88 : decode cX4_count 88 = .ok (.new 20, 3) := by decide +kernel
theorem dX4_count_91 : decode cX4_count 91 = .ok (.dup, 1) := by decide +kernel
theorem dX4_count_92 : decode cX4_count 92 = .ok (.ldc 118, 2) := by decide +kernel
theorem dX4_count_94 : decode cX4_count 94 = .ok (.invokespecial 24, 3) := by decide +kernel
theorem dX4_count_97 : decode cX4_count 97 = .ok (.athrow, 1) := by decide +kernel
theorem dX4_faults_0 : decode cX4_faults 0 = .ok (.iconst 0, 1) := by decide +kernel
theorem dX4_faults_1 : decode cX4_faults 1 = .ok (.istore_n 1, 1) := by decide +kernel
theorem dX4_faults_2 : decode cX4_faults 2 = .ok (.iconst 1, 1) := by decide +kernel
theorem dX4_faults_3 : decode cX4_faults 3 = .ok (.istore_n 2, 1) := by decide +kernel
theorem dX4_faults_4 : decode cX4_faults 4 = .ok (.iconst 0, 1) := by decide +kernel
theorem dX4_faults_5 : decode cX4_faults 5 = .ok (.istore_n 3, 1) := by decide +kernel
theorem dX4_faults_6 : decode cX4_faults 6 = .ok (.aload_n 0, 1) := by decide +kernel
theorem dX4_faults_7 : decode cX4_faults 7 = .ok (.getfield 78, 3) := by decide +kernel
theorem dX4_faults_10 : decode cX4_faults 10 = .ok (.astore 4, 2) := by decide +kernel
theorem dX4_faults_12 : decode cX4_faults 12 = .ok (.iconst 0, 1) := by decide +kernel
theorem dX4_faults_13 : decode cX4_faults 13 = .ok (.istore 5, 2) := by decide +kernel
theorem dX4_faults_15 : decode cX4_faults 15 = .ok (.aload 4, 2) := by decide +kernel
theorem dX4_faults_17 : decode cX4_faults 17 = .ok (.ifnull 104, 3) := by decide +kernel
theorem dX4_faults_20 : decode cX4_faults 20 = .ok (.iload 5, 2) := by decide +kernel
theorem dX4_faults_22 : decode cX4_faults 22 = .ok (.aload_n 0, 1) := by decide +kernel
theorem dX4_faults_23 : decode cX4_faults 23 = .ok (.getfield 27, 3) := by decide +kernel
theorem dX4_faults_26 : decode cX4_faults 26 = .ok (.if_icmp .ge 95, 3) := by decide +kernel
theorem dX4_faults_29 : decode cX4_faults 29 = .ok (.aload 4, 2) := by decide +kernel
theorem dX4_faults_31 : decode cX4_faults 31 = .ok (.getfield 54, 3) := by decide +kernel
theorem dX4_faults_34 : decode cX4_faults 34 = .ok (.iload_n 2, 1) := by decide +kernel
theorem dX4_faults_35 : decode cX4_faults 35 = .ok (.if_icmp .eq 6, 3) := by decide +kernel
theorem dX4_faults_38 : decode cX4_faults 38 = .ok (.iinc 1 1, 3) := by decide +kernel
theorem dX4_faults_41 : decode cX4_faults 41 = .ok (.aload 4, 2) := by decide +kernel
theorem dX4_faults_43 : decode cX4_faults 43 = .ok (.getfield 45, 3) := by decide +kernel
theorem dX4_faults_46 : decode cX4_faults 46 = .ok (.iconst 1, 1) := by decide +kernel
theorem dX4_faults_47 : decode cX4_faults 47 = .ok (.if_icmp .lt 20, 3) := by decide +kernel
theorem dX4_faults_50 : decode cX4_faults 50 = .ok (.aload 4, 2) := by decide +kernel
theorem dX4_faults_52 : decode cX4_faults 52 = .ok (.getfield 60, 3) := by decide +kernel
theorem dX4_faults_55 : decode cX4_faults 55 = .ok (.ifCond .ne 15, 3) := by decide +kernel
theorem dX4_faults_58 : decode cX4_faults 58 = .ok (.aload 4, 2) := by decide +kernel
theorem dX4_faults_60 : decode cX4_faults 60 = .ok (.getfield 45, 3) := by decide +kernel
theorem dX4_faults_63 : decode cX4_faults 63 = .ok (.iconst 3, 1) := by decide +kernel
theorem dX4_faults_64 : decode cX4_faults 64 = .ok (.if_icmp .ge 6, 3) := by decide +kernel
theorem dX4_faults_67 : decode cX4_faults 67 = .ok (.iinc 1 1, 3) := by decide +kernel
theorem dX4_faults_70 : decode cX4_faults 70 = .ok (.aload 4, 2) := by decide +kernel
theorem dX4_faults_72 : decode cX4_faults 72 = .ok (.aload 4, 2) := by decide +kernel
theorem dX4_faults_74 : decode cX4_faults 74 = .ok (.invokevirtual 120, 3) := by decide +kernel
theorem dX4_faults_77 : decode cX4_faults 77 = .ok (.putfield 124, 3) := by decide +kernel
theorem dX4_faults_80 : decode cX4_faults 80 = .ok (.iload_n 3, 1) := by decide +kernel
theorem dX4_faults_81 : decode cX4_faults 81 = .ok (.aload 4, 2) := by decide +kernel
theorem dX4_faults_83 : decode cX4_faults 83 = .ok (.getfield 124, 3) := by decide +kernel
theorem dX4_faults_86 : decode cX4_faults 86 = .ok (.ifCond .eq 7, 3) := by decide +kernel
theorem dX4_faults_89 : decode cX4_faults 89 = .ok (.iconst 1, 1) := by decide +kernel
theorem dX4_faults_90 : decode cX4_faults 90 = .ok (.goto 4, 3) := by decide +kernel
theorem dX4_faults_93 : decode cX4_faults 93 = .ok (.iconst 0, 1) := by decide +kernel
theorem dX4_faults_94 : decode cX4_faults 94 = .ok (.iadd, 1) := by decide +kernel
theorem dX4_faults_95 : decode cX4_faults 95 = .ok (.istore_n 3, 1) := by decide +kernel
theorem dX4_faults_96 : decode cX4_faults 96 = .ok (.aload 4, 2) := by decide +kernel
theorem dX4_faults_98 : decode cX4_faults 98 = .ok (.getfield 54, 3) := by decide +kernel
theorem dX4_faults_101 : decode cX4_faults 101 = .ok (.aload 4, 2) := by decide +kernel
theorem dX4_faults_103 : decode cX4_faults 103 = .ok (.getfield 45, 3) := by decide +kernel
theorem dX4_faults_106 : decode cX4_faults 106 = .ok (.iadd, 1) := by decide +kernel
theorem dX4_faults_107 : decode cX4_faults 107 = .ok (.istore_n 2, 1) := by decide +kernel
theorem dX4_faults_108 : decode cX4_faults 108 = .ok (.aload 4, 2) := by decide +kernel
theorem dX4_faults_110 : decode cX4_faults 110 = .ok (.getfield 82, 3) := by decide +kernel
theorem dX4_faults_113 : decode cX4_faults 113 = .ok (.astore 4, 2) := by decide +kernel
theorem dX4_faults_115 : decode cX4_faults 115 = .ok (.iinc 5 1, 3) := by decide +kernel
theorem dX4_faults_118 : decode cX4_faults 118 = .ok (.goto (-103), 3) := by decide +kernel
theorem dX4_faults_121 : decode cX4_faults 121 = .ok (.aload 4, 2) := by decide +kernel
theorem dX4_faults_123 : decode cX4_faults 123 = .ok (.ifnonnull 13, 3) := by decide +kernel
theorem dX4_faults_126 : decode cX4_faults 126 = .ok (.iload_n 2, 1) := by decide +kernel
theorem dX4_faults_127 : decode cX4_faults 127 = .ok (.aload_n 0, 1) := by decide +kernel
theorem dX4_faults_128 : decode cX4_faults 128 = .ok (.getfield 27, 3) := by decide +kernel
theorem dX4_faults_131 : decode cX4_faults 131 = .ok (.iconst 1, 1) := by decide +kernel
theorem dX4_faults_132 : decode cX4_faults 132 = .ok (.iadd, 1) := by decide +kernel
theorem dX4_faults_133 : decode cX4_faults 133 = .ok (.if_icmp .eq 6, 3) := by decide +kernel
theorem dX4_faults_136 : decode cX4_faults 136 = .ok (.iinc 1 1, 3) := by decide +kernel
theorem dX4_faults_139 : decode cX4_faults 139 = .ok (.iload_n 1, 1) := by decide +kernel
theorem dX4_faults_140 : decode cX4_faults 140 = .ok (.aload_n 0, 1) := by decide +kernel
theorem dX4_faults_141 : decode cX4_faults 141 = .ok (.getfield 10, 3) := by decide +kernel
theorem dX4_faults_144 : decode cX4_faults 144 = .ok (.iload_n 3, 1) := by decide +kernel
theorem dX4_faults_145 : decode cX4_faults 145 = .ok (.aload_n 0, 1) := by decide +kernel
theorem dX4_faults_146 : decode cX4_faults 146 = .ok (.getfield 27, 3) := by decide +kernel
theorem dX4_faults_149 : decode cX4_faults 149 = .ok (.invokevirtual 127, 3) := by decide +kernel
theorem dX4_faults_152 : decode cX4_faults 152 = .ok (.iadd, 1) := by decide +kernel
theorem dX4_faults_153 : decode cX4_faults 153 = .ok (.ireturn, 1) := by decide +kernel
theorem dX4_startWith_0 : decode cX4_startWith 0 = .ok (.aload_n 0, 1) := by decide +kernel
theorem dX4_startWith_1 : decode cX4_startWith 1 = .ok (.getfield 10, 3) := by decide +kernel
theorem dX4_startWith_4 : decode cX4_startWith 4 = .ok (.invokevirtual 131, 3) := by decide +kernel
theorem dX4_startWith_7 : decode cX4_startWith 7 = .ok (.aload_n 0, 1) := by decide +kernel
theorem dX4_startWith_8 : decode cX4_startWith 8 = .ok (.iload_n 1, 1) := by decide +kernel
theorem dX4_startWith_9 : decode cX4_startWith 9 = .ok (.putfield 27, 3) := by decide +kernel
theorem dX4_startWith_12 : decode cX4_startWith 12 = .ok (.aload_n 0, 1) := by decide +kernel
theorem dX4_startWith_13 : decode cX4_startWith 13 = .ok (.iconst 0, 1) := by decide +kernel
theorem dX4_startWith_14 : decode cX4_startWith 14 = .ok (.putfield 38, 3) := by decide +kernel
theorem dX4_startWith_17 : decode cX4_startWith 17 = .ok (.aload_n 0, 1) := by decide +kernel
theorem dX4_startWith_18 : decode cX4_startWith 18 = .ok (.new 46, 3) := by decide +kernel
theorem dX4_startWith_21 : decode cX4_startWith 21 = .ok (.dup, 1) := by decide +kernel
theorem dX4_startWith_22 : decode cX4_startWith 22 = .ok (.iconst 1, 1) := by decide +kernel
theorem dX4_startWith_23 : decode cX4_startWith 23 = .ok (.iload_n 1, 1) := by decide +kernel
theorem dX4_startWith_24 : decode cX4_startWith 24 = .ok (.aconst_null, 1) := by decide +kernel
theorem dX4_startWith_25 : decode cX4_startWith 25 = .ok (.invokespecial 134, 3) := by decide +kernel
theorem dX4_startWith_28 : decode cX4_startWith 28 = .ok (.putfield 78, 3) := by decide +kernel
theorem dX4_startWith_31 : decode cX4_startWith 31 = .ok (.aload_n 0, 1) := by decide +kernel
theorem dX4_startWith_32 : decode cX4_startWith 32 = .ok (.getfield 10, 3) := by decide +kernel
theorem dX4_startWith_35 : decode cX4_startWith 35 = .ok (.aload_n 0, 1) := by decide +kernel
theorem dX4_startWith_36 : decode cX4_startWith 36 = .ok (.getfield 78, 3) := by decide +kernel
theorem dX4_startWith_39 : decode cX4_startWith 39 = .ok (.invokevirtual 69, 3) := by decide +kernel
theorem dX4_startWith_42 : decode cX4_startWith 42 = .ok (.return_, 1) := by decide +kernel
theorem dX4_requireSize_0 : decode cX4_requireSize 0 = .ok (.iload_n 0, 1) := by decide +kernel
theorem dX4_requireSize_1 : decode cX4_requireSize 1 = .ok (.iconst 3, 1) := by decide +kernel
theorem dX4_requireSize_2 : decode cX4_requireSize 2 = .ok (.if_icmp .lt 10, 3) := by decide +kernel
theorem dX4_requireSize_5 : decode cX4_requireSize 5 = .ok (.iload_n 0, 1) := by decide +kernel
theorem dX4_requireSize_6 : decode cX4_requireSize 6 = .ok (.sipush 5000, 3) := by decide +kernel
theorem dX4_requireSize_9 : decode cX4_requireSize 9 = .ok (.if_icmp .le 13, 3) := by decide +kernel
theorem dX4_requireSize_12 : decode cX4_requireSize 12 = .ok (.new 20, 3) := by decide +kernel
theorem dX4_requireSize_15 : decode cX4_requireSize 15 = .ok (.dup, 1) := by decide +kernel
theorem dX4_requireSize_16 : decode cX4_requireSize 16 = .ok (.ldc 137, 2) := by decide +kernel
theorem dX4_requireSize_18 : decode cX4_requireSize 18 = .ok (.invokespecial 24, 3) := by decide +kernel
theorem dX4_requireSize_21 : decode cX4_requireSize 21 = .ok (.athrow, 1) := by decide +kernel
theorem dX4_requireSize_22 : decode cX4_requireSize 22 = .ok (.return_, 1) := by decide +kernel
theorem dX4_cut_0 : decode cX4_cut 0 = .ok (.new 46, 3) := by decide +kernel
theorem dX4_cut_3 : decode cX4_cut 3 = .ok (.dup, 1) := by decide +kernel
theorem dX4_cut_4 : decode cX4_cut 4 = .ok (.aload_n 1, 1) := by decide +kernel
theorem dX4_cut_5 : decode cX4_cut 5 = .ok (.getfield 54, 3) := by decide +kernel
theorem dX4_cut_8 : decode cX4_cut 8 = .ok (.iload_n 2, 1) := by decide +kernel
theorem dX4_cut_9 : decode cX4_cut 9 = .ok (.iadd, 1) := by decide +kernel
theorem dX4_cut_10 : decode cX4_cut 10 = .ok (.aload_n 1, 1) := by decide +kernel
theorem dX4_cut_11 : decode cX4_cut 11 = .ok (.getfield 45, 3) := by decide +kernel
theorem dX4_cut_14 : decode cX4_cut 14 = .ok (.iload_n 2, 1) := by decide +kernel
theorem dX4_cut_15 : decode cX4_cut 15 = .ok (.isub, 1) := by decide +kernel
theorem dX4_cut_16 : decode cX4_cut 16 = .ok (.aload_n 1, 1) := by decide +kernel
theorem dX4_cut_17 : decode cX4_cut 17 = .ok (.getfield 82, 3) := by decide +kernel
theorem dX4_cut_20 : decode cX4_cut 20 = .ok (.invokespecial 134, 3) := by decide +kernel
theorem dX4_cut_23 : decode cX4_cut 23 = .ok (.astore_n 3, 1) := by decide +kernel
theorem dX4_cut_24 : decode cX4_cut 24 = .ok (.aload_n 1, 1) := by decide +kernel
theorem dX4_cut_25 : decode cX4_cut 25 = .ok (.iload_n 2, 1) := by decide +kernel
theorem dX4_cut_26 : decode cX4_cut 26 = .ok (.putfield 45, 3) := by decide +kernel
theorem dX4_cut_29 : decode cX4_cut 29 = .ok (.aload_n 1, 1) := by decide +kernel
theorem dX4_cut_30 : decode cX4_cut 30 = .ok (.aload_n 3, 1) := by decide +kernel
theorem dX4_cut_31 : decode cX4_cut 31 = .ok (.putfield 82, 3) := by decide +kernel
theorem dX4_cut_34 : decode cX4_cut 34 = .ok (.aload_n 0, 1) := by decide +kernel
theorem dX4_cut_35 : decode cX4_cut 35 = .ok (.getfield 10, 3) := by decide +kernel
theorem dX4_cut_38 : decode cX4_cut 38 = .ok (.aload_n 3, 1) := by decide +kernel
theorem dX4_cut_39 : decode cX4_cut 39 = .ok (.invokevirtual 69, 3) := by decide +kernel
theorem dX4_cut_42 : decode cX4_cut 42 = .ok (.return_, 1) := by decide +kernel
theorem dX4_swallowFreeBehind_0 : decode cX4_swallowFreeBehind 0 = .ok (.aload_n 1, 1) := by decide +kernel
theorem dX4_swallowFreeBehind_1 : decode cX4_swallowFreeBehind 1 = .ok (.getfield 82, 3) := by decide +kernel
theorem dX4_swallowFreeBehind_4 : decode cX4_swallowFreeBehind 4 = .ok (.ifnull 13, 3) := by decide +kernel
theorem dX4_swallowFreeBehind_7 : decode cX4_swallowFreeBehind 7 = .ok (.aload_n 1, 1) := by decide +kernel
theorem dX4_swallowFreeBehind_8 : decode cX4_swallowFreeBehind 8 = .ok (.getfield 82, 3) := by decide +kernel
theorem dX4_swallowFreeBehind_11 : decode cX4_swallowFreeBehind 11 = .ok (.getfield 60, 3) := by decide +kernel
theorem dX4_swallowFreeBehind_14 : decode cX4_swallowFreeBehind 14 = .ok (.ifCond .ne 5, 3) := by decide +kernel
theorem dX4_swallowFreeBehind_17 : decode cX4_swallowFreeBehind 17 = .ok (.iconst 0, 1) := by decide +kernel
theorem dX4_swallowFreeBehind_18 : decode cX4_swallowFreeBehind 18 = .ok (.ireturn, 1) := by decide +kernel
theorem dX4_swallowFreeBehind_19 : decode cX4_swallowFreeBehind 19 = .ok (.aload_n 0, 1) := by decide +kernel
theorem dX4_swallowFreeBehind_20 : decode cX4_swallowFreeBehind 20 = .ok (.getfield 10, 3) := by decide +kernel
theorem dX4_swallowFreeBehind_23 : decode cX4_swallowFreeBehind 23 = .ok (.aload_n 1, 1) := by decide +kernel
theorem dX4_swallowFreeBehind_24 : decode cX4_swallowFreeBehind 24 = .ok (.invokevirtual 41, 3) := by decide +kernel
theorem dX4_swallowFreeBehind_27 : decode cX4_swallowFreeBehind 27 = .ok (.iconst 0, 1) := by decide +kernel
theorem dX4_swallowFreeBehind_28 : decode cX4_swallowFreeBehind 28 = .ok (.istore_n 2, 1) := by decide +kernel
theorem dX4_swallowFreeBehind_29 : decode cX4_swallowFreeBehind 29 = .ok (.aload_n 1, 1) := by decide +kernel
theorem dX4_swallowFreeBehind_30 : decode cX4_swallowFreeBehind 30 = .ok (.getfield 82, 3) := by decide +kernel
theorem dX4_swallowFreeBehind_33 : decode cX4_swallowFreeBehind 33 = .ok (.astore_n 3, 1) := by decide +kernel
theorem dX4_swallowFreeBehind_34 : decode cX4_swallowFreeBehind 34 = .ok (.aload_n 3, 1) := by decide +kernel
theorem dX4_swallowFreeBehind_35 : decode cX4_swallowFreeBehind 35 = .ok (.ifnull 50, 3) := by decide +kernel
theorem dX4_swallowFreeBehind_38 : decode cX4_swallowFreeBehind 38 = .ok (.aload_n 3, 1) := by decide +kernel
theorem dX4_swallowFreeBehind_39 : decode cX4_swallowFreeBehind 39 = .ok (.getfield 60, 3) := by decide +kernel
theorem dX4_swallowFreeBehind_42 : decode cX4_swallowFreeBehind 42 = .ok (.ifCond .eq 43, 3) := by decide +kernel
theorem dX4_swallowFreeBehind_45 : decode cX4_swallowFreeBehind 45 = .ok (.aload_n 0, 1) := by decide +kernel
theorem dX4_swallowFreeBehind_46 : decode cX4_swallowFreeBehind 46 = .ok (.getfield 10, 3) := by decide +kernel
theorem dX4_swallowFreeBehind_49 : decode cX4_swallowFreeBehind 49 = .ok (.aload_n 3, 1) := by decide +kernel
theorem dX4_swallowFreeBehind_50 : decode cX4_swallowFreeBehind 50 = .ok (.invokevirtual 41, 3) := by decide +kernel
theorem dX4_swallowFreeBehind_53 : decode cX4_swallowFreeBehind 53 = .ok (.aload_n 1, 1) := by decide +kernel
theorem dX4_swallowFreeBehind_54 : decode cX4_swallowFreeBehind 54 = .ok (.dup, 1) := by decide +kernel
theorem dX4_swallowFreeBehind_55 : decode cX4_swallowFreeBehind 55 = .ok (.getfield 45, 3) := by decide +kernel
theorem dX4_swallowFreeBehind_58 : decode cX4_swallowFreeBehind 58 = .ok (.aload_n 3, 1) := by decide +kernel
theorem dX4_swallowFreeBehind_59 : decode cX4_swallowFreeBehind 59 = .ok (.getfield 45, 3) := by decide +kernel
theorem dX4_swallowFreeBehind_62 : decode cX4_swallowFreeBehind 62 = .ok (.iadd, 1) := by decide +kernel
theorem dX4_swallowFreeBehind_63 : decode cX4_swallowFreeBehind 63 = .ok (.putfield 45, 3) := by decide +kernel
theorem dX4_swallowFreeBehind_66 : decode cX4_swallowFreeBehind 66 = .ok (.aload_n 1, 1) := by decide +kernel
theorem dX4_swallowFreeBehind_67 : decode cX4_swallowFreeBehind 67 = .ok (.aload_n 3, 1) := by decide +kernel
theorem dX4_swallowFreeBehind_68 : decode cX4_swallowFreeBehind 68 = .ok (.getfield 82, 3) := by decide +kernel
theorem dX4_swallowFreeBehind_71 : decode cX4_swallowFreeBehind 71 = .ok (.putfield 82, 3) := by decide +kernel
theorem dX4_swallowFreeBehind_74 : decode cX4_swallowFreeBehind 74 = .ok (.iinc 2 1, 3) := by decide +kernel
theorem dX4_swallowFreeBehind_77 : decode cX4_swallowFreeBehind 77 = .ok (.aload_n 3, 1) := by decide +kernel
theorem dX4_swallowFreeBehind_78 : decode cX4_swallowFreeBehind 78 = .ok (.getfield 82, 3) := by decide +kernel
theorem dX4_swallowFreeBehind_81 : decode cX4_swallowFreeBehind 81 = .ok (.astore_n 3, 1) := by decide +kernel
theorem dX4_swallowFreeBehind_82 : decode cX4_swallowFreeBehind 82 = .ok (.goto (-48), 3) := by decide +kernel
theorem dX4_swallowFreeBehind_85 : decode cX4_swallowFreeBehind 85 = .ok (.aload_n 0, 1) := by decide +kernel
theorem dX4_swallowFreeBehind_86 : decode cX4_swallowFreeBehind 86 = .ok (.getfield 10, 3) := by decide +kernel
theorem dX4_swallowFreeBehind_89 : decode cX4_swallowFreeBehind 89 = .ok (.aload_n 1, 1) := by decide +kernel
theorem dX4_swallowFreeBehind_90 : decode cX4_swallowFreeBehind 90 = .ok (.invokevirtual 69, 3) := by decide +kernel
theorem dX4_swallowFreeBehind_93 : decode cX4_swallowFreeBehind 93 = .ok (.iload_n 2, 1) := by decide +kernel
theorem dX4_swallowFreeBehind_94 : decode cX4_swallowFreeBehind 94 = .ok (.ireturn, 1) := by decide +kernel
theorem dX4_beginningAt_0 : decode cX4_beginningAt 0 = .ok (.aload_n 0, 1) := by decide +kernel
theorem dX4_beginningAt_1 : decode cX4_beginningAt 1 = .ok (.iload_n 1, 1) := by decide +kernel
theorem dX4_beginningAt_2 : decode cX4_beginningAt 2 = .ok (.invokevirtual 85, 3) := by decide +kernel
theorem dX4_beginningAt_5 : decode cX4_beginningAt 5 = .ok (.astore_n 2, 1) := by decide +kernel
theorem dX4_beginningAt_6 : decode cX4_beginningAt 6 = .ok (.aload_n 2, 1) := by decide +kernel
theorem dX4_beginningAt_7 : decode cX4_beginningAt 7 = .ok (.ifnull 15, 3) := by decide +kernel
theorem dX4_beginningAt_10 : decode cX4_beginningAt 10 = .ok (.aload_n 2, 1) := by decide +kernel
theorem dX4_beginningAt_11 : decode cX4_beginningAt 11 = .ok (.getfield 54, 3) := by decide +kernel
theorem dX4_beginningAt_14 : decode cX4_beginningAt 14 = .ok (.iload_n 1, 1) := by decide +kernel
theorem dX4_beginningAt_15 : decode cX4_beginningAt 15 = .ok (.if_icmp .ne 7, 3) := by decide +kernel
theorem dX4_beginningAt_18 : decode cX4_beginningAt 18 = .ok (.aload_n 2, 1) := by decide +kernel
theorem dX4_beginningAt_19 : decode cX4_beginningAt 19 = .ok (.goto 4, 3) := by decide +kernel
theorem dX4_beginningAt_22 : decode cX4_beginningAt 22 = .ok (.aconst_null, 1) := by decide +kernel
theorem dX4_beginningAt_23 : decode cX4_beginningAt 23 = .ok (.areturn, 1) := by decide +kernel
theorem dX4_holding_0 : decode cX4_holding 0 = .ok (.iload_n 1, 1) := by decide +kernel
theorem dX4_holding_1 : decode cX4_holding 1 = .ok (.iconst 1, 1) := by decide +kernel
theorem dX4_holding_2 : decode cX4_holding 2 = .ok (.if_icmp .lt 11, 3) := by decide +kernel
theorem dX4_holding_5 : decode cX4_holding 5 = .ok (.iload_n 1, 1) := by decide +kernel
theorem dX4_holding_6 : decode cX4_holding 6 = .ok (.aload_n 0, 1) := by decide +kernel
theorem dX4_holding_7 : decode cX4_holding 7 = .ok (.getfield 27, 3) := by decide +kernel
theorem dX4_holding_10 : decode cX4_holding 10 = .ok (.if_icmp .le 5, 3) := by decide +kernel
theorem dX4_holding_13 : decode cX4_holding 13 = .ok (.aconst_null, 1) := by decide +kernel
theorem dX4_holding_14 : decode cX4_holding 14 = .ok (.areturn, 1) := by decide +kernel
theorem dX4_holding_15 : decode cX4_holding 15 = .ok (.aload_n 0, 1) := by decide +kernel
theorem dX4_holding_16 : decode cX4_holding 16 = .ok (.getfield 78, 3) := by decide +kernel
theorem dX4_holding_19 : decode cX4_holding 19 = .ok (.astore_n 2, 1) := by decide +kernel
theorem dX4_holding_20 : decode cX4_holding 20 = .ok (.aload_n 0, 1) := by decide +kernel
theorem dX4_holding_21 : decode cX4_holding 21 = .ok (.getfield 78, 3) := by decide +kernel
theorem dX4_holding_24 : decode cX4_holding 24 = .ok (.astore_n 3, 1) := by decide +kernel
theorem dX4_holding_25 : decode cX4_holding 25 = .ok (.aload_n 3, 1) := by decide +kernel
theorem dX4_holding_26 : decode cX4_holding 26 = .ok (.ifnull 21, 3) := by decide +kernel
theorem dX4_holding_29 : decode cX4_holding 29 = .ok (.aload_n 3, 1) := by decide +kernel
theorem dX4_holding_30 : decode cX4_holding 30 = .ok (.getfield 54, 3) := by decide +kernel
theorem dX4_holding_33 : decode cX4_holding 33 = .ok (.iload_n 1, 1) := by decide +kernel
theorem dX4_holding_34 : decode cX4_holding 34 = .ok (.if_icmp .gt 13, 3) := by decide +kernel
theorem dX4_holding_37 : decode cX4_holding 37 = .ok (.aload_n 3, 1) := by decide +kernel
theorem dX4_holding_38 : decode cX4_holding 38 = .ok (.astore_n 2, 1) := by decide +kernel
theorem dX4_holding_39 : decode cX4_holding 39 = .ok (.aload_n 3, 1) := by decide +kernel
theorem dX4_holding_40 : decode cX4_holding 40 = .ok (.getfield 82, 3) := by decide +kernel
theorem dX4_holding_43 : decode cX4_holding 43 = .ok (.astore_n 3, 1) := by decide +kernel
theorem dX4_holding_44 : decode cX4_holding 44 = .ok (.goto (-19), 3) := by decide +kernel
theorem dX4_holding_47 : decode cX4_holding 47 = .ok (.aload_n 2, 1) := by decide +kernel
theorem dX4_holding_48 : decode cX4_holding 48 = .ok (.areturn, 1) := by decide +kernel
theorem dX4_freeCells_0 : decode cX4_freeCells 0 = .ok (.iconst 0, 1) := by decide +kernel
theorem dX4_freeCells_1 : decode cX4_freeCells 1 = .ok (.istore_n 1, 1) := by decide +kernel
theorem dX4_freeCells_2 : decode cX4_freeCells 2 = .ok (.aload_n 0, 1) := by decide +kernel
theorem dX4_freeCells_3 : decode cX4_freeCells 3 = .ok (.getfield 78, 3) := by decide +kernel
theorem dX4_freeCells_6 : decode cX4_freeCells 6 = .ok (.astore_n 2, 1) := by decide +kernel
theorem dX4_freeCells_7 : decode cX4_freeCells 7 = .ok (.aload_n 2, 1) := by decide +kernel
theorem dX4_freeCells_8 : decode cX4_freeCells 8 = .ok (.ifnull 29, 3) := by decide +kernel
theorem dX4_freeCells_11 : decode cX4_freeCells 11 = .ok (.iload_n 1, 1) := by decide +kernel
theorem dX4_freeCells_12 : decode cX4_freeCells 12 = .ok (.aload_n 2, 1) := by decide +kernel
theorem dX4_freeCells_13 : decode cX4_freeCells 13 = .ok (.getfield 60, 3) := by decide +kernel
theorem dX4_freeCells_16 : decode cX4_freeCells 16 = .ok (.ifCond .eq 10, 3) := by decide +kernel
theorem dX4_freeCells_19 : decode cX4_freeCells 19 = .ok (.aload_n 2, 1) := by decide +kernel
theorem dX4_freeCells_20 : decode cX4_freeCells 20 = .ok (.getfield 45, 3) := by decide +kernel
theorem dX4_freeCells_23 : decode cX4_freeCells 23 = .ok (.goto 4, 3) := by decide +kernel
theorem dX4_freeCells_26 : decode cX4_freeCells 26 = .ok (.iconst 0, 1) := by decide +kernel
theorem dX4_freeCells_27 : decode cX4_freeCells 27 = .ok (.iadd, 1) := by decide +kernel
theorem dX4_freeCells_28 : decode cX4_freeCells 28 = .ok (.istore_n 1, 1) := by decide +kernel
theorem dX4_freeCells_29 : decode cX4_freeCells 29 = .ok (.aload_n 2, 1) := by decide +kernel
theorem dX4_freeCells_30 : decode cX4_freeCells 30 = .ok (.getfield 82, 3) := by decide +kernel
theorem dX4_freeCells_33 : decode cX4_freeCells 33 = .ok (.astore_n 2, 1) := by decide +kernel
theorem dX4_freeCells_34 : decode cX4_freeCells 34 = .ok (.goto (-27), 3) := by decide +kernel
theorem dX4_freeCells_37 : decode cX4_freeCells 37 = .ok (.iload_n 1, 1) := by decide +kernel
theorem dX4_freeCells_38 : decode cX4_freeCells 38 = .ok (.ireturn, 1) := by decide +kernel
theorem dX4_crumbCells_0 : decode cX4_crumbCells 0 = .ok (.iconst 0, 1) := by decide +kernel
theorem dX4_crumbCells_1 : decode cX4_crumbCells 1 = .ok (.istore_n 1, 1) := by decide +kernel
theorem dX4_crumbCells_2 : decode cX4_crumbCells 2 = .ok (.aload_n 0, 1) := by decide +kernel
theorem dX4_crumbCells_3 : decode cX4_crumbCells 3 = .ok (.getfield 78, 3) := by decide +kernel
theorem dX4_crumbCells_6 : decode cX4_crumbCells 6 = .ok (.astore_n 2, 1) := by decide +kernel
theorem dX4_crumbCells_7 : decode cX4_crumbCells 7 = .ok (.aload_n 2, 1) := by decide +kernel
theorem dX4_crumbCells_8 : decode cX4_crumbCells 8 = .ok (.ifnull 29, 3) := by decide +kernel
theorem dX4_crumbCells_11 : decode cX4_crumbCells 11 = .ok (.iload_n 1, 1) := by decide +kernel
theorem dX4_crumbCells_12 : decode cX4_crumbCells 12 = .ok (.aload_n 2, 1) := by decide +kernel
theorem dX4_crumbCells_13 : decode cX4_crumbCells 13 = .ok (.invokevirtual 139, 3) := by decide +kernel
theorem dX4_crumbCells_16 : decode cX4_crumbCells 16 = .ok (.ifCond .eq 10, 3) := by decide +kernel
theorem dX4_crumbCells_19 : decode cX4_crumbCells 19 = .ok (.aload_n 2, 1) := by decide +kernel
theorem dX4_crumbCells_20 : decode cX4_crumbCells 20 = .ok (.getfield 45, 3) := by decide +kernel
theorem dX4_crumbCells_23 : decode cX4_crumbCells 23 = .ok (.goto 4, 3) := by decide +kernel
theorem dX4_crumbCells_26 : decode cX4_crumbCells 26 = .ok (.iconst 0, 1) := by decide +kernel
theorem dX4_crumbCells_27 : decode cX4_crumbCells 27 = .ok (.iadd, 1) := by decide +kernel
theorem dX4_crumbCells_28 : decode cX4_crumbCells 28 = .ok (.istore_n 1, 1) := by decide +kernel
theorem dX4_crumbCells_29 : decode cX4_crumbCells 29 = .ok (.aload_n 2, 1) := by decide +kernel
theorem dX4_crumbCells_30 : decode cX4_crumbCells 30 = .ok (.getfield 82, 3) := by decide +kernel
theorem dX4_crumbCells_33 : decode cX4_crumbCells 33 = .ok (.astore_n 2, 1) := by decide +kernel
theorem dX4_crumbCells_34 : decode cX4_crumbCells 34 = .ok (.goto (-27), 3) := by decide +kernel
theorem dX4_crumbCells_37 : decode cX4_crumbCells 37 = .ok (.iload_n 1, 1) := by decide +kernel
theorem dX4_crumbCells_38 : decode cX4_crumbCells 38 = .ok (.ireturn, 1) := by decide +kernel
theorem dX4_usedPieces_0 : decode cX4_usedPieces 0 = .ok (.iconst 0, 1) := by decide +kernel
theorem dX4_usedPieces_1 : decode cX4_usedPieces 1 = .ok (.istore_n 1, 1) := by decide +kernel
theorem dX4_usedPieces_2 : decode cX4_usedPieces 2 = .ok (.aload_n 0, 1) := by decide +kernel
theorem dX4_usedPieces_3 : decode cX4_usedPieces 3 = .ok (.getfield 78, 3) := by decide +kernel
theorem dX4_usedPieces_6 : decode cX4_usedPieces 6 = .ok (.astore_n 2, 1) := by decide +kernel
theorem dX4_usedPieces_7 : decode cX4_usedPieces 7 = .ok (.aload_n 2, 1) := by decide +kernel
theorem dX4_usedPieces_8 : decode cX4_usedPieces 8 = .ok (.ifnull 26, 3) := by decide +kernel
theorem dX4_usedPieces_11 : decode cX4_usedPieces 11 = .ok (.iload_n 1, 1) := by decide +kernel
theorem dX4_usedPieces_12 : decode cX4_usedPieces 12 = .ok (.aload_n 2, 1) := by decide +kernel
theorem dX4_usedPieces_13 : decode cX4_usedPieces 13 = .ok (.getfield 60, 3) := by decide +kernel
theorem dX4_usedPieces_16 : decode cX4_usedPieces 16 = .ok (.ifCond .eq 7, 3) := by decide +kernel
theorem dX4_usedPieces_19 : decode cX4_usedPieces 19 = .ok (.iconst 0, 1) := by decide +kernel
theorem dX4_usedPieces_20 : decode cX4_usedPieces 20 = .ok (.goto 4, 3) := by decide +kernel
theorem dX4_usedPieces_23 : decode cX4_usedPieces 23 = .ok (.iconst 1, 1) := by decide +kernel
theorem dX4_usedPieces_24 : decode cX4_usedPieces 24 = .ok (.iadd, 1) := by decide +kernel
theorem dX4_usedPieces_25 : decode cX4_usedPieces 25 = .ok (.istore_n 1, 1) := by decide +kernel
theorem dX4_usedPieces_26 : decode cX4_usedPieces 26 = .ok (.aload_n 2, 1) := by decide +kernel
theorem dX4_usedPieces_27 : decode cX4_usedPieces 27 = .ok (.getfield 82, 3) := by decide +kernel
theorem dX4_usedPieces_30 : decode cX4_usedPieces 30 = .ok (.astore_n 2, 1) := by decide +kernel
theorem dX4_usedPieces_31 : decode cX4_usedPieces 31 = .ok (.goto (-24), 3) := by decide +kernel
theorem dX4_usedPieces_34 : decode cX4_usedPieces 34 = .ok (.iload_n 1, 1) := by decide +kernel
theorem dX4_usedPieces_35 : decode cX4_usedPieces 35 = .ok (.ireturn, 1) := by decide +kernel
theorem dX4_shelvedPieces_0 : decode cX4_shelvedPieces 0 = .ok (.iconst 0, 1) := by decide +kernel
theorem dX4_shelvedPieces_1 : decode cX4_shelvedPieces 1 = .ok (.istore_n 1, 1) := by decide +kernel
theorem dX4_shelvedPieces_2 : decode cX4_shelvedPieces 2 = .ok (.aload_n 0, 1) := by decide +kernel
theorem dX4_shelvedPieces_3 : decode cX4_shelvedPieces 3 = .ok (.getfield 78, 3) := by decide +kernel
theorem dX4_shelvedPieces_6 : decode cX4_shelvedPieces 6 = .ok (.astore_n 2, 1) := by decide +kernel
theorem dX4_shelvedPieces_7 : decode cX4_shelvedPieces 7 = .ok (.aload_n 2, 1) := by decide +kernel
theorem dX4_shelvedPieces_8 : decode cX4_shelvedPieces 8 = .ok (.ifnull 26, 3) := by decide +kernel
theorem dX4_shelvedPieces_11 : decode cX4_shelvedPieces 11 = .ok (.iload_n 1, 1) := by decide +kernel
theorem dX4_shelvedPieces_12 : decode cX4_shelvedPieces 12 = .ok (.aload_n 2, 1) := by decide +kernel
theorem dX4_shelvedPieces_13 : decode cX4_shelvedPieces 13 = .ok (.invokevirtual 120, 3) := by decide +kernel
theorem dX4_shelvedPieces_16 : decode cX4_shelvedPieces 16 = .ok (.ifCond .eq 7, 3) := by decide +kernel
theorem dX4_shelvedPieces_19 : decode cX4_shelvedPieces 19 = .ok (.iconst 1, 1) := by decide +kernel
theorem dX4_shelvedPieces_20 : decode cX4_shelvedPieces 20 = .ok (.goto 4, 3) := by decide +kernel
theorem dX4_shelvedPieces_23 : decode cX4_shelvedPieces 23 = .ok (.iconst 0, 1) := by decide +kernel
theorem dX4_shelvedPieces_24 : decode cX4_shelvedPieces 24 = .ok (.iadd, 1) := by decide +kernel
theorem dX4_shelvedPieces_25 : decode cX4_shelvedPieces 25 = .ok (.istore_n 1, 1) := by decide +kernel
theorem dX4_shelvedPieces_26 : decode cX4_shelvedPieces 26 = .ok (.aload_n 2, 1) := by decide +kernel
theorem dX4_shelvedPieces_27 : decode cX4_shelvedPieces 27 = .ok (.getfield 82, 3) := by decide +kernel
theorem dX4_shelvedPieces_30 : decode cX4_shelvedPieces 30 = .ok (.astore_n 2, 1) := by decide +kernel
theorem dX4_shelvedPieces_31 : decode cX4_shelvedPieces 31 = .ok (.goto (-24), 3) := by decide +kernel
theorem dX4_shelvedPieces_34 : decode cX4_shelvedPieces 34 = .ok (.iload_n 1, 1) := by decide +kernel
theorem dX4_shelvedPieces_35 : decode cX4_shelvedPieces 35 = .ok (.ireturn, 1) := by decide +kernel
theorem dX4_crumbs_0 : decode cX4_crumbs 0 = .ok (.iconst 0, 1) := by decide +kernel
theorem dX4_crumbs_1 : decode cX4_crumbs 1 = .ok (.istore_n 1, 1) := by decide +kernel
theorem dX4_crumbs_2 : decode cX4_crumbs 2 = .ok (.aload_n 0, 1) := by decide +kernel
theorem dX4_crumbs_3 : decode cX4_crumbs 3 = .ok (.getfield 78, 3) := by decide +kernel
theorem dX4_crumbs_6 : decode cX4_crumbs 6 = .ok (.astore_n 2, 1) := by decide +kernel
theorem dX4_crumbs_7 : decode cX4_crumbs 7 = .ok (.aload_n 2, 1) := by decide +kernel
theorem dX4_crumbs_8 : decode cX4_crumbs 8 = .ok (.ifnull 26, 3) := by decide +kernel
theorem dX4_crumbs_11 : decode cX4_crumbs 11 = .ok (.iload_n 1, 1) := by decide +kernel
theorem dX4_crumbs_12 : decode cX4_crumbs 12 = .ok (.aload_n 2, 1) := by decide +kernel
theorem dX4_crumbs_13 : decode cX4_crumbs 13 = .ok (.invokevirtual 139, 3) := by decide +kernel
theorem dX4_crumbs_16 : decode cX4_crumbs 16 = .ok (.ifCond .eq 7, 3) := by decide +kernel
theorem dX4_crumbs_19 : decode cX4_crumbs 19 = .ok (.iconst 1, 1) := by decide +kernel
theorem dX4_crumbs_20 : decode cX4_crumbs 20 = .ok (.goto 4, 3) := by decide +kernel
theorem dX4_crumbs_23 : decode cX4_crumbs 23 = .ok (.iconst 0, 1) := by decide +kernel
theorem dX4_crumbs_24 : decode cX4_crumbs 24 = .ok (.iadd, 1) := by decide +kernel
theorem dX4_crumbs_25 : decode cX4_crumbs 25 = .ok (.istore_n 1, 1) := by decide +kernel
theorem dX4_crumbs_26 : decode cX4_crumbs 26 = .ok (.aload_n 2, 1) := by decide +kernel
theorem dX4_crumbs_27 : decode cX4_crumbs 27 = .ok (.getfield 82, 3) := by decide +kernel
theorem dX4_crumbs_30 : decode cX4_crumbs 30 = .ok (.astore_n 2, 1) := by decide +kernel
theorem dX4_crumbs_31 : decode cX4_crumbs 31 = .ok (.goto (-24), 3) := by decide +kernel
theorem dX4_crumbs_34 : decode cX4_crumbs 34 = .ok (.iload_n 1, 1) := by decide +kernel
theorem dX4_crumbs_35 : decode cX4_crumbs 35 = .ok (.ireturn, 1) := by decide +kernel
theorem dX4_greatestFree_0 : decode cX4_greatestFree 0 = .ok (.iconst 0, 1) := by decide +kernel
theorem dX4_greatestFree_1 : decode cX4_greatestFree 1 = .ok (.istore_n 1, 1) := by decide +kernel
theorem dX4_greatestFree_2 : decode cX4_greatestFree 2 = .ok (.aload_n 0, 1) := by decide +kernel
theorem dX4_greatestFree_3 : decode cX4_greatestFree 3 = .ok (.getfield 78, 3) := by decide +kernel
theorem dX4_greatestFree_6 : decode cX4_greatestFree 6 = .ok (.astore_n 2, 1) := by decide +kernel
theorem dX4_greatestFree_7 : decode cX4_greatestFree 7 = .ok (.aload_n 2, 1) := by decide +kernel
theorem dX4_greatestFree_8 : decode cX4_greatestFree 8 = .ok (.ifnull 31, 3) := by decide +kernel
theorem dX4_greatestFree_11 : decode cX4_greatestFree 11 = .ok (.aload_n 2, 1) := by decide +kernel
theorem dX4_greatestFree_12 : decode cX4_greatestFree 12 = .ok (.getfield 60, 3) := by decide +kernel
theorem dX4_greatestFree_15 : decode cX4_greatestFree 15 = .ok (.ifCond .eq 16, 3) := by decide +kernel
theorem dX4_greatestFree_18 : decode cX4_greatestFree 18 = .ok (.aload_n 2, 1) := by decide +kernel
theorem dX4_greatestFree_19 : decode cX4_greatestFree 19 = .ok (.getfield 45, 3) := by decide +kernel
theorem dX4_greatestFree_22 : decode cX4_greatestFree 22 = .ok (.iload_n 1, 1) := by decide +kernel
theorem dX4_greatestFree_23 : decode cX4_greatestFree 23 = .ok (.if_icmp .le 8, 3) := by decide +kernel
theorem dX4_greatestFree_26 : decode cX4_greatestFree 26 = .ok (.aload_n 2, 1) := by decide +kernel
theorem dX4_greatestFree_27 : decode cX4_greatestFree 27 = .ok (.getfield 45, 3) := by decide +kernel
theorem dX4_greatestFree_30 : decode cX4_greatestFree 30 = .ok (.istore_n 1, 1) := by decide +kernel
theorem dX4_greatestFree_31 : decode cX4_greatestFree 31 = .ok (.aload_n 2, 1) := by decide +kernel
theorem dX4_greatestFree_32 : decode cX4_greatestFree 32 = .ok (.getfield 82, 3) := by decide +kernel
theorem dX4_greatestFree_35 : decode cX4_greatestFree 35 = .ok (.astore_n 2, 1) := by decide +kernel
theorem dX4_greatestFree_36 : decode cX4_greatestFree 36 = .ok (.goto (-29), 3) := by decide +kernel
theorem dX4_greatestFree_39 : decode cX4_greatestFree 39 = .ok (.iload_n 1, 1) := by decide +kernel
theorem dX4_greatestFree_40 : decode cX4_greatestFree 40 = .ok (.ireturn, 1) := by decide +kernel
theorem dX5_init_0 : decode cX5_init 0 = .ok (.aload_n 0, 1) := by decide +kernel
theorem dX5_init_1 : decode cX5_init 1 = .ok (.invokespecial 1, 3) := by decide +kernel
theorem dX5_init_4 : decode cX5_init 4 = .ok (.aload_n 0, 1) := by decide +kernel
theorem dX5_init_5 : decode cX5_init 5 = .ok (.sipush 1024, 3) := by decide +kernel
theorem dX5_init_8 : decode cX5_init 8 = .ok (.putfield 7, 3) := by decide +kernel
theorem dX5_init_11 : decode cX5_init 11 = .ok (.aload_n 0, 1) := by decide +kernel
theorem dX5_init_12 : decode cX5_init 12 = .ok (.sipush 16385, 3) := by decide +kernel
theorem dX5_init_15 : decode cX5_init 15 = .ok (.newarray .int, 2) := by decide +kernel
theorem dX5_init_17 : decode cX5_init 17 = .ok (.putfield 13, 3) := by decide +kernel
theorem dX5_init_20 : decode cX5_init 20 = .ok (.aload_n 0, 1) := by decide +kernel
theorem dX5_init_21 : decode cX5_init 21 = .ok (.sipush 16385, 3) := by decide +kernel
theorem dX5_init_24 : decode cX5_init 24 = .ok (.newarray .int, 2) := by decide +kernel
theorem dX5_init_26 : decode cX5_init 26 = .ok (.putfield 17, 3) := by decide +kernel
theorem dX5_init_29 : decode cX5_init 29 = .ok (.aload_n 0, 1) := by decide +kernel
theorem dX5_init_30 : decode cX5_init 30 = .ok (.getfield 13, 3) := by decide +kernel
theorem dX5_init_33 : decode cX5_init 33 = .ok (.iconst 1, 1) := by decide +kernel
theorem dX5_init_34 : decode cX5_init 34 = .ok (.sipush (-1024), 3) := by decide +kernel
theorem dX5_init_37 : decode cX5_init 37 = .ok (.iastore, 1) := by decide +kernel
theorem dX5_init_38 : decode cX5_init 38 = .ok (.aload_n 0, 1) := by decide +kernel
theorem dX5_init_39 : decode cX5_init 39 = .ok (.getfield 17, 3) := by decide +kernel
theorem dX5_init_42 : decode cX5_init 42 = .ok (.iconst 1, 1) := by decide +kernel
theorem dX5_init_43 : decode cX5_init 43 = .ok (.iconst 0, 1) := by decide +kernel
theorem dX5_init_44 : decode cX5_init 44 = .ok (.iastore, 1) := by decide +kernel
theorem dX5_init_45 : decode cX5_init 45 = .ok (.return_, 1) := by decide +kernel
theorem dX5_thrown_0 : decode cX5_thrown 0 = .ok (.aload_n 0, 1) := by decide +kernel
theorem dX5_thrown_1 : decode cX5_thrown 1 = .ok (.getfield 20, 3) := by decide +kernel
theorem dX5_thrown_4 : decode cX5_thrown 4 = .ok (.ireturn, 1) := by decide +kernel
theorem dX5_goes_0 : decode cX5_goes 0 = .ok (.aload_n 0, 1) := by decide +kernel
theorem dX5_goes_1 : decode cX5_goes 1 = .ok (.iload_n 1, 1) := by decide +kernel
theorem dX5_goes_2 : decode cX5_goes 2 = .ok (.ifCond .eq 7, 3) := by decide +kernel
theorem dX5_goes_5 : decode cX5_goes 5 = .ok (.iconst 0, 1) := by decide +kernel
theorem dX5_goes_6 : decode cX5_goes 6 = .ok (.goto 4, 3) := by decide +kernel
theorem dX5_goes_9 : decode cX5_goes 9 = .ok (.iconst 1, 1) := by decide +kernel
theorem dX5_goes_10 : decode cX5_goes 10 = .ok (.putfield 20, 3) := by decide +kernel
theorem dX5_goes_13 : decode cX5_goes 13 = .ok (.iload_n 1, 1) := by decide +kernel
theorem dX5_goes_14 : decode cX5_goes 14 = .ok (.ireturn, 1) := by decide +kernel
theorem dX5_length_0 : decode cX5_length 0 = .ok (.aload_n 0, 1) := by decide +kernel
theorem dX5_length_1 : decode cX5_length 1 = .ok (.getfield 13, 3) := by decide +kernel
theorem dX5_length_4 : decode cX5_length 4 = .ok (.iload_n 1, 1) := by decide +kernel
theorem dX5_length_5 : decode cX5_length 5 = .ok (.iaload, 1) := by decide +kernel
theorem dX5_length_6 : decode cX5_length 6 = .ok (.ifCond .ge 14, 3) := by decide +kernel
theorem dX5_length_9 : decode cX5_length 9 = .ok (.iconst 0, 1) := by decide +kernel
theorem dX5_length_10 : decode cX5_length 10 = .ok (.aload_n 0, 1) := by decide +kernel
theorem dX5_length_11 : decode cX5_length 11 = .ok (.getfield 13, 3) := by decide +kernel
theorem dX5_length_14 : decode cX5_length 14 = .ok (.iload_n 1, 1) := by decide +kernel
theorem dX5_length_15 : decode cX5_length 15 = .ok (.iaload, 1) := by decide +kernel
theorem dX5_length_16 : decode cX5_length 16 = .ok (.isub, 1) := by decide +kernel
theorem dX5_length_17 : decode cX5_length 17 = .ok (.goto 9, 3) := by decide +kernel
theorem dX5_length_20 : decode cX5_length 20 = .ok (.aload_n 0, 1) := by decide +kernel
theorem dX5_length_21 : decode cX5_length 21 = .ok (.getfield 13, 3) := by decide +kernel
theorem dX5_length_24 : decode cX5_length 24 = .ok (.iload_n 1, 1) := by decide +kernel
theorem dX5_length_25 : decode cX5_length 25 = .ok (.iaload, 1) := by decide +kernel
theorem dX5_length_26 : decode cX5_length 26 = .ok (.ireturn, 1) := by decide +kernel
theorem dX5_release_0 : decode cX5_release 0 = .ok (.aload_n 0, 1) := by decide +kernel
theorem dX5_release_1 : decode cX5_release 1 = .ok (.dup, 1) := by decide +kernel
theorem dX5_release_2 : decode cX5_release 2 = .ok (.getfield 23, 3) := by decide +kernel
theorem dX5_release_5 : decode cX5_release 5 = .ok (.iconst 1, 1) := by decide +kernel
theorem dX5_release_6 : decode cX5_release 6 = .ok (.iadd, 1) := by decide +kernel
theorem dX5_release_7 : decode cX5_release 7 = .ok (.putfield 23, 3) := by decide +kernel
theorem dX5_release_10 : decode cX5_release 10 = .ok (.aload_n 0, 1) := by decide +kernel
theorem dX5_release_11 : decode cX5_release 11 = .ok (.getfield 13, 3) := by decide +kernel
theorem dX5_release_14 : decode cX5_release 14 = .ok (.iload_n 1, 1) := by decide +kernel
theorem dX5_release_15 : decode cX5_release 15 = .ok (.iconst 0, 1) := by decide +kernel
theorem dX5_release_16 : decode cX5_release 16 = .ok (.iload_n 2, 1) := by decide +kernel
theorem dX5_release_17 : decode cX5_release 17 = .ok (.isub, 1) := by decide +kernel
theorem dX5_release_18 : decode cX5_release 18 = .ok (.iastore, 1) := by decide +kernel
theorem dX5_release_19 : decode cX5_release 19 = .ok (.aload_n 0, 1) := by decide +kernel
theorem dX5_release_20 : decode cX5_release 20 = .ok (.getfield 17, 3) := by decide +kernel
theorem dX5_release_23 : decode cX5_release 23 = .ok (.iload_n 1, 1) := by decide +kernel
theorem dX5_release_24 : decode cX5_release 24 = .ok (.aload_n 0, 1) := by decide +kernel
theorem dX5_release_25 : decode cX5_release 25 = .ok (.getfield 23, 3) := by decide +kernel
theorem dX5_release_28 : decode cX5_release 28 = .ok (.iastore, 1) := by decide +kernel
theorem dX5_release_29 : decode cX5_release 29 = .ok (.return_, 1) := by decide +kernel
theorem dX5_space_0 : decode cX5_space 0 = .ok (.aload_n 0, 1) := by decide +kernel
theorem dX5_space_1 : decode cX5_space 1 = .ok (.iload_n 1, 1) := by decide +kernel
theorem dX5_space_2 : decode cX5_space 2 = .ok (.bipush 16, 2) := by decide +kernel
theorem dX5_space_4 : decode cX5_space 4 = .ok (.if_icmp .lt 14, 3) := by decide +kernel
theorem dX5_space_7 : decode cX5_space 7 = .ok (.iload_n 1, 1) := by decide +kernel
theorem dX5_space_8 : decode cX5_space 8 = .ok (.sipush 16384, 3) := by decide +kernel
theorem dX5_space_11 : decode cX5_space 11 = .ok (.if_icmp .gt 7, 3) := by decide +kernel
theorem dX5_space_14 : decode cX5_space 14 = .ok (.iconst 1, 1) := by decide +kernel
theorem dX5_space_15 : decode cX5_space 15 = .ok (.goto 4, 3) := by decide +kernel
theorem dX5_space_18 : decode cX5_space 18 = .ok (.iconst 0, 1) := by decide +kernel
theorem dX5_space_19 : decode cX5_space 19 = .ok (.invokevirtual 26, 3) := by decide +kernel
theorem dX5_space_22 : decode cX5_space 22 = .ok (.ifCond .ne 5, 3) := by decide +kernel
theorem dX5_space_25 : decode cX5_space 25 = .ok (.iconst 0, 1) := by decide +kernel
theorem dX5_space_26 : decode cX5_space 26 = .ok (.ireturn, 1) := by decide +kernel
theorem dX5_space_27 : decode cX5_space 27 = .ok (.aload_n 0, 1) := by decide +kernel
theorem dX5_space_28 : decode cX5_space 28 = .ok (.getfield 7, 3) := by decide +kernel
theorem dX5_space_31 : decode cX5_space 31 = .ok (.istore_n 2, 1) := by decide +kernel
theorem dX5_space_32 : decode cX5_space 32 = .ok (.iconst 1, 1) := by decide +kernel
theorem dX5_space_33 : decode cX5_space 33 = .ok (.istore_n 3, 1) := by decide +kernel
theorem dX5_space_34 : decode cX5_space 34 = .ok (.iload_n 3, 1) := by decide +kernel
theorem dX5_space_35 : decode cX5_space 35 = .ok (.sipush 16384, 3) := by decide +kernel
theorem dX5_space_38 : decode cX5_space 38 = .ok (.if_icmp .gt 16, 3) := by decide +kernel
theorem dX5_space_41 : decode cX5_space 41 = .ok (.aload_n 0, 1) := by decide +kernel
theorem dX5_space_42 : decode cX5_space 42 = .ok (.getfield 13, 3) := by decide +kernel
theorem dX5_space_45 : decode cX5_space 45 = .ok (.iload_n 3, 1) := by decide +kernel
theorem dX5_space_46 : decode cX5_space 46 = .ok (.iconst 0, 1) := by decide +kernel
theorem dX5_space_47 : decode cX5_space 47 = .ok (.iastore, 1) := by decide +kernel
theorem dX5_space_48 : decode cX5_space 48 = .ok (.iinc 3 1, 3) := by decide +kernel
theorem dX5_space_51 : decode cX5_space 51 = .ok (.goto (-17), 3) := by decide +kernel
theorem dX5_space_54 : decode cX5_space 54 = .ok (.aload_n 0, 1) := by decide +kernel
theorem dX5_space_55 : decode cX5_space 55 = .ok (.iload_n 1, 1) := by decide +kernel
theorem dX5_space_56 : decode cX5_space 56 = .ok (.putfield 7, 3) := by decide +kernel
theorem dX5_space_59 : decode cX5_space 59 = .ok (.aload_n 0, 1) := by decide +kernel
theorem dX5_space_60 : decode cX5_space 60 = .ok (.iconst 0, 1) := by decide +kernel
theorem dX5_space_61 : decode cX5_space 61 = .ok (.putfield 30, 3) := by decide +kernel
theorem dX5_space_64 : decode cX5_space 64 = .ok (.aload_n 0, 1) := by decide +kernel
theorem dX5_space_65 : decode cX5_space 65 = .ok (.iconst 1, 1) := by decide +kernel
theorem dX5_space_66 : decode cX5_space 66 = .ok (.iload_n 1, 1) := by decide +kernel
theorem dX5_space_67 : decode cX5_space 67 = .ok (.invokevirtual 33, 3) := by decide +kernel
theorem dX5_space_70 : decode cX5_space 70 = .ok (.iload_n 2, 1) := by decide +kernel
theorem dX5_space_71 : decode cX5_space 71 = .ok (.ireturn, 1) := by decide +kernel
theorem dX5_best_0 : decode cX5_best 0 = .ok (.iconst 0, 1) := by decide +kernel
theorem dX5_best_1 : decode cX5_best 1 = .ok (.istore_n 2, 1) := by decide +kernel
theorem dX5_best_2 : decode cX5_best 2 = .ok (.iconst 1, 1) := by decide +kernel
theorem dX5_best_3 : decode cX5_best 3 = .ok (.istore_n 3, 1) := by decide +kernel
theorem dX5_best_4 : decode cX5_best 4 = .ok (.iload_n 3, 1) := by decide +kernel
theorem dX5_best_5 : decode cX5_best 5 = .ok (.aload_n 0, 1) := by decide +kernel
theorem dX5_best_6 : decode cX5_best 6 = .ok (.getfield 7, 3) := by decide +kernel
theorem dX5_best_9 : decode cX5_best 9 = .ok (.if_icmp .gt 109, 3) := by decide +kernel
theorem dX5_best_12 : decode cX5_best 12 = .ok (.aload_n 0, 1) := by decide +kernel
theorem dX5_best_13 : decode cX5_best 13 = .ok (.getfield 13, 3) := by decide +kernel
theorem dX5_best_16 : decode cX5_best 16 = .ok (.iload_n 3, 1) := by decide +kernel
theorem dX5_best_17 : decode cX5_best 17 = .ok (.iaload, 1) := by decide +kernel
theorem dX5_best_18 : decode cX5_best 18 = .ok (.bipush (-3), 2) := by decide +kernel
theorem dX5_best_20 : decode cX5_best 20 = .ok (.if_icmp .gt 16, 3) := by decide +kernel
theorem dX5_best_23 : decode cX5_best 23 = .ok (.aload_n 0, 1) := by decide +kernel
theorem dX5_best_24 : decode cX5_best 24 = .ok (.iload_n 3, 1) := by decide +kernel
theorem dX5_best_25 : decode cX5_best 25 = .ok (.invokevirtual 37, 3) := by decide +kernel
theorem dX5_best_28 : decode cX5_best 28 = .ok (.iload_n 1, 1) := by decide +kernel
theorem dX5_best_29 : decode cX5_best 29 = .ok (.if_icmp .lt 7, 3) := by decide +kernel
theorem dX5_best_32 : decode cX5_best 32 = .ok (.iconst 1, 1) := by decide +kernel
theorem dX5_best_33 : decode cX5_best 33 = .ok (.goto 4, 3) := by decide +kernel
theorem dX5_best_36 : decode cX5_best 36 = .ok (.iconst 0, 1) := by decide +kernel
theorem dX5_best_37 : decode cX5_best 37 = .ok (.istore 4, 2) := by decide +kernel
theorem dX5_best_39 : decode cX5_best 39 = .ok (.iload_n 2, 1) := by decide +kernel
theorem dX5_best_40 : decode cX5_best 40 = .ok (.ifCond .eq 44, 3) := by decide +kernel
theorem dX5_best_43 : decode cX5_best 43 = .ok (.aload_n 0, 1) := by decide +kernel
theorem dX5_best_44 : decode cX5_best 44 = .ok (.iload_n 3, 1) := by decide +kernel
theorem dX5_best_45 : decode cX5_best 45 = .ok (.invokevirtual 37, 3) := by decide +kernel
theorem dX5_best_48 : decode cX5_best 48 = .ok (.aload_n 0, 1) := by decide +kernel
theorem dX5_best_49 : decode cX5_best 49 = .ok (.iload_n 2, 1) := by decide +kernel
theorem dX5_best_50 : decode cX5_best 50 = .ok (.invokevirtual 37, 3) := by decide +kernel
theorem dX5_best_53 : decode cX5_best 53 = .ok (.if_icmp .lt 31, 3) := by decide +kernel
theorem dX5_best_56 : decode cX5_best 56 = .ok (.aload_n 0, 1) := by decide +kernel
theorem dX5_best_57 : decode cX5_best 57 = .ok (.iload_n 3, 1) := by decide +kernel
theorem dX5_best_58 : decode cX5_best 58 = .ok (.invokevirtual 37, 3) := by decide +kernel
theorem dX5_best_61 : decode cX5_best 61 = .ok (.aload_n 0, 1) := by decide +kernel
theorem dX5_best_62 : decode cX5_best 62 = .ok (.iload_n 2, 1) := by decide +kernel
theorem dX5_best_63 : decode cX5_best 63 = .ok (.invokevirtual 37, 3) := by decide +kernel
theorem dX5_best_66 : decode cX5_best 66 = .ok (.if_icmp .ne 22, 3) := by decide +kernel
theorem dX5_best_69 : decode cX5_best 69 = .ok (.aload_n 0, 1) := by decide +kernel
theorem dX5_best_70 : decode cX5_best 70 = .ok (.getfield 17, 3) := by decide +kernel
theorem dX5_best_73 : decode cX5_best 73 = .ok (.iload_n 3, 1) := by decide +kernel
theorem dX5_best_74 : decode cX5_best 74 = .ok (.iaload, 1) := by decide +kernel
theorem dX5_best_75 : decode cX5_best 75 = .ok (.aload_n 0, 1) := by decide +kernel
theorem dX5_best_76 : decode cX5_best 76 = .ok (.getfield 17, 3) := by decide +kernel
theorem dX5_best_79 : decode cX5_best 79 = .ok (.iload_n 2, 1) := by decide +kernel
theorem dX5_best_80 : decode cX5_best 80 = .ok (.iaload, 1) := by decide +kernel
theorem dX5_best_81 : decode cX5_best 81 = .ok (.if_icmp .le 7, 3) := by decide +kernel
theorem dX5_best_84 : decode cX5_best 84 = .ok (.iconst 1, 1) := by decide +kernel
theorem dX5_best_85 : decode cX5_best 85 = .ok (.goto 4, 3) := by decide +kernel
theorem dX5_best_88 : decode cX5_best 88 = .ok (.iconst 0, 1) := by decide +kernel
theorem dX5_best_89 : decode cX5_best 89 = .ok (.istore 5, 2) := by decide +kernel
theorem dX5_best_91 : decode cX5_best 91 = .ok (.iload 4, 2) := by decide +kernel
theorem dX5_best_93 : decode cX5_best 93 = .ok (.ifCond .eq 12, 3) := by decide +kernel
theorem dX5_best_96 : decode cX5_best 96 = .ok (.iload 5, 2) := by decide +kernel
theorem dX5_best_98 : decode cX5_best 98 = .ok (.ifCond .eq 7, 3) := by decide +kernel
theorem dX5_best_101 : decode cX5_best 101 = .ok (.iload_n 3, 1) := by decide +kernel
theorem dX5_best_102 : decode cX5_best 102 = .ok (.goto 4, 3) := by decide +kernel
theorem dX5_best_105 : decode cX5_best 105 = .ok (.iload_n 2, 1) := by decide +kernel
theorem dX5_best_106 : decode cX5_best 106 = .ok (.istore_n 2, 1) := by decide +kernel
theorem dX5_best_107 : decode cX5_best 107 = .ok (.iload_n 3, 1) := by decide +kernel
theorem dX5_best_108 : decode cX5_best 108 = .ok (.aload_n 0, 1) := by decide +kernel
theorem dX5_best_109 : decode cX5_best 109 = .ok (.iload_n 3, 1) := by decide +kernel
theorem dX5_best_110 : decode cX5_best 110 = .ok (.invokevirtual 37, 3) := by decide +kernel
theorem dX5_best_113 : decode cX5_best 113 = .ok (.iadd, 1) := by decide +kernel
theorem dX5_best_114 : decode cX5_best 114 = .ok (.istore_n 3, 1) := by decide +kernel
theorem dX5_best_115 : decode cX5_best 115 = .ok (.goto (-111), 3) := by decide +kernel
theorem dX5_best_118 : decode cX5_best 118 = .ok (.iload_n 2, 1) := by decide +kernel
theorem dX5_best_119 : decode cX5_best 119 = .ok (.ireturn, 1) := by decide +kernel
theorem dX5_sized_0 : decode cX5_sized 0 = .ok (.iload_n 0, 1) := by decide +kernel
theorem dX5_sized_1 : decode cX5_sized 1 = .ok (.iconst 3, 1) := by decide +kernel
theorem dX5_sized_2 : decode cX5_sized 2 = .ok (.if_icmp .lt 14, 3) := by decide +kernel
theorem dX5_sized_5 : decode cX5_sized 5 = .ok (.iload_n 0, 1) := by decide +kernel
theorem dX5_sized_6 : decode cX5_sized 6 = .ok (.sipush 5000, 3) := by decide +kernel
theorem dX5_sized_9 : decode cX5_sized 9 = .ok (.if_icmp .gt 7, 3) := by decide +kernel
theorem dX5_sized_12 : decode cX5_sized 12 = .ok (.iconst 1, 1) := by decide +kernel
theorem dX5_sized_13 : decode cX5_sized 13 = .ok (.goto 4, 3) := by decide +kernel
theorem dX5_sized_16 : decode cX5_sized 16 = .ok (.iconst 0, 1) := by decide +kernel
theorem dX5_sized_17 : decode cX5_sized 17 = .ok (.ireturn, 1) := by decide +kernel
theorem dX5_take_0 : decode cX5_take 0 = .ok (.aload_n 0, 1) := by decide +kernel
theorem dX5_take_1 : decode cX5_take 1 = .ok (.iload_n 1, 1) := by decide +kernel
theorem dX5_take_2 : decode cX5_take 2 = .ok (.invokestatic 41, 3) := by decide +kernel
theorem dX5_take_5 : decode cX5_take 5 = .ok (.invokevirtual 26, 3) := by decide +kernel
theorem dX5_take_8 : decode cX5_take 8 = .ok (.ifCond .ne 5, 3) := by decide +kernel
theorem dX5_take_11 : decode cX5_take 11 = .ok (.iconst 0, 1) := by decide +kernel
theorem dX5_take_12 : decode cX5_take 12 = .ok (.ireturn, 1) := by decide +kernel
theorem dX5_take_13 : decode cX5_take 13 = .ok (.aload_n 0, 1) := by decide +kernel
theorem dX5_take_14 : decode cX5_take 14 = .ok (.iload_n 1, 1) := by decide +kernel
theorem dX5_take_15 : decode cX5_take 15 = .ok (.invokevirtual 45, 3) := by decide +kernel
theorem dX5_take_18 : decode cX5_take 18 = .ok (.istore_n 2, 1) := by decide +kernel
theorem dX5_take_19 : decode cX5_take 19 = .ok (.iload_n 2, 1) := by decide +kernel
theorem dX5_take_20 : decode cX5_take 20 = .ok (.ifCond .ne 15, 3) := by decide +kernel
theorem dX5_take_23 : decode cX5_take 23 = .ok (.aload_n 0, 1) := by decide +kernel
theorem dX5_take_24 : decode cX5_take 24 = .ok (.dup, 1) := by decide +kernel
theorem dX5_take_25 : decode cX5_take 25 = .ok (.getfield 30, 3) := by decide +kernel
theorem dX5_take_28 : decode cX5_take 28 = .ok (.iconst 1, 1) := by decide +kernel
theorem dX5_take_29 : decode cX5_take 29 = .ok (.iadd, 1) := by decide +kernel
theorem dX5_take_30 : decode cX5_take 30 = .ok (.putfield 30, 3) := by decide +kernel
theorem dX5_take_33 : decode cX5_take 33 = .ok (.iconst 0, 1) := by decide +kernel
theorem dX5_take_34 : decode cX5_take 34 = .ok (.ireturn, 1) := by decide +kernel
theorem dX5_take_35 : decode cX5_take 35 = .ok (.aload_n 0, 1) := by decide +kernel
theorem dX5_take_36 : decode cX5_take 36 = .ok (.iload_n 2, 1) := by decide +kernel
theorem dX5_take_37 : decode cX5_take 37 = .ok (.invokevirtual 37, 3) := by decide +kernel
theorem dX5_take_40 : decode cX5_take 40 = .ok (.iload_n 1, 1) := by decide +kernel
theorem dX5_take_41 : decode cX5_take 41 = .ok (.isub, 1) := by decide +kernel
theorem dX5_take_42 : decode cX5_take 42 = .ok (.istore_n 3, 1) := by decide +kernel
theorem dX5_take_43 : decode cX5_take 43 = .ok (.aload_n 0, 1) := by decide +kernel
theorem dX5_take_44 : decode cX5_take 44 = .ok (.getfield 13, 3) := by decide +kernel
theorem dX5_take_47 : decode cX5_take 47 = .ok (.iload_n 2, 1) := by decide +kernel
theorem dX5_take_48 : decode cX5_take 48 = .ok (.iload_n 1, 1) := by decide +kernel
theorem dX5_take_49 : decode cX5_take 49 = .ok (.iastore, 1) := by decide +kernel
theorem dX5_take_50 : decode cX5_take 50 = .ok (.iload_n 3, 1) := by decide +kernel
theorem dX5_take_51 : decode cX5_take 51 = .ok (.ifCond .le 11, 3) := by decide +kernel
theorem dX5_take_54 : decode cX5_take 54 = .ok (.aload_n 0, 1) := by decide +kernel
theorem dX5_take_55 : decode cX5_take 55 = .ok (.iload_n 2, 1) := by decide +kernel
theorem dX5_take_56 : decode cX5_take 56 = .ok (.iload_n 1, 1) := by decide +kernel
theorem dX5_take_57 : decode cX5_take 57 = .ok (.iadd, 1) := by decide +kernel
theorem dX5_take_58 : decode cX5_take 58 = .ok (.iload_n 3, 1) := by decide +kernel
theorem dX5_take_59 : decode cX5_take 59 = .ok (.invokevirtual 33, 3) := by decide +kernel
theorem dX5_take_62 : decode cX5_take 62 = .ok (.iload_n 2, 1) := by decide +kernel
theorem dX5_take_63 : decode cX5_take 63 = .ok (.ireturn, 1) := by decide +kernel
theorem dX5_known_0 : decode cX5_known 0 = .ok (.iload_n 1, 1) := by decide +kernel
theorem dX5_known_1 : decode cX5_known 1 = .ok (.iconst 1, 1) := by decide +kernel
theorem dX5_known_2 : decode cX5_known 2 = .ok (.if_icmp .lt 15, 3) := by decide +kernel
theorem dX5_known_5 : decode cX5_known 5 = .ok (.iload_n 1, 1) := by decide +kernel
theorem dX5_known_6 : decode cX5_known 6 = .ok (.aload_n 0, 1) := by decide +kernel
theorem dX5_known_7 : decode cX5_known 7 = .ok (.getfield 7, 3) := by decide +kernel
theorem dX5_known_10 : decode cX5_known 10 = .ok (.if_icmp .gt 7, 3) := by decide +kernel
theorem dX5_known_13 : decode cX5_known 13 = .ok (.iconst 1, 1) := by decide +kernel
theorem dX5_known_14 : decode cX5_known 14 = .ok (.goto 4, 3) := by decide +kernel
theorem dX5_known_17 : decode cX5_known 17 = .ok (.iconst 0, 1) := by decide +kernel
theorem dX5_known_18 : decode cX5_known 18 = .ok (.ireturn, 1) := by decide +kernel
theorem dX5_give_0 : decode cX5_give 0 = .ok (.aload_n 0, 1) := by decide +kernel
theorem dX5_give_1 : decode cX5_give 1 = .ok (.aload_n 0, 1) := by decide +kernel
theorem dX5_give_2 : decode cX5_give 2 = .ok (.iload_n 1, 1) := by decide +kernel
theorem dX5_give_3 : decode cX5_give 3 = .ok (.invokevirtual 48, 3) := by decide +kernel
theorem dX5_give_6 : decode cX5_give 6 = .ok (.ifCond .eq 16, 3) := by decide +kernel
theorem dX5_give_9 : decode cX5_give 9 = .ok (.aload_n 0, 1) := by decide +kernel
theorem dX5_give_10 : decode cX5_give 10 = .ok (.getfield 13, 3) := by decide +kernel
theorem dX5_give_13 : decode cX5_give 13 = .ok (.iload_n 1, 1) := by decide +kernel
theorem dX5_give_14 : decode cX5_give 14 = .ok (.iaload, 1) := by decide +kernel
theorem dX5_give_15 : decode cX5_give 15 = .ok (.ifCond .le 7, 3) := by decide +kernel
theorem dX5_give_18 : decode cX5_give 18 = .ok (.iconst 1, 1) := by decide +kernel
theorem dX5_give_19 : decode cX5_give 19 = .ok (.goto 4, 3) := by decide +kernel
theorem dX5_give_22 : decode cX5_give 22 = .ok (.iconst 0, 1) := by decide +kernel
theorem dX5_give_23 : decode cX5_give 23 = .ok (.invokevirtual 26, 3) := by decide +kernel
theorem dX5_give_26 : decode cX5_give 26 = .ok (.ifCond .ne 5, 3) := by decide +kernel
theorem dX5_give_29 : decode cX5_give 29 = .ok (.iconst 0, 1) := by decide +kernel
theorem dX5_give_30 : decode cX5_give 30 = .ok (.ireturn, 1) := by decide +kernel
theorem dX5_give_31 : decode cX5_give 31 = .ok (.aload_n 0, 1) := by decide +kernel
theorem dX5_give_32 : decode cX5_give 32 = .ok (.getfield 13, 3) := by decide +kernel
theorem dX5_give_35 : decode cX5_give 35 = .ok (.iload_n 1, 1) := by decide +kernel
theorem dX5_give_36 : decode cX5_give 36 = .ok (.iaload, 1) := by decide +kernel
theorem dX5_give_37 : decode cX5_give 37 = .ok (.istore_n 2, 1) := by decide +kernel
theorem dX5_give_38 : decode cX5_give 38 = .ok (.aload_n 0, 1) := by decide +kernel
theorem dX5_give_39 : decode cX5_give 39 = .ok (.iload_n 1, 1) := by decide +kernel
theorem dX5_give_40 : decode cX5_give 40 = .ok (.iload_n 2, 1) := by decide +kernel
theorem dX5_give_41 : decode cX5_give 41 = .ok (.invokevirtual 33, 3) := by decide +kernel
theorem dX5_give_44 : decode cX5_give 44 = .ok (.iload_n 2, 1) := by decide +kernel
theorem dX5_give_45 : decode cX5_give 45 = .ok (.ireturn, 1) := by decide +kernel
theorem dX5_joined_0 : decode cX5_joined 0 = .ok (.aload_n 0, 1) := by decide +kernel
theorem dX5_joined_1 : decode cX5_joined 1 = .ok (.iload_n 1, 1) := by decide +kernel
theorem dX5_joined_2 : decode cX5_joined 2 = .ok (.invokevirtual 37, 3) := by decide +kernel
theorem dX5_joined_5 : decode cX5_joined 5 = .ok (.istore_n 2, 1) := by decide +kernel
theorem dX5_joined_6 : decode cX5_joined 6 = .ok (.iconst 0, 1) := by decide +kernel
theorem dX5_joined_7 : decode cX5_joined 7 = .ok (.istore_n 3, 1) := by decide +kernel
theorem dX5_joined_8 : decode cX5_joined 8 = .ok (.iload_n 1, 1) := by decide +kernel
theorem dX5_joined_9 : decode cX5_joined 9 = .ok (.iload_n 2, 1) := by decide +kernel
theorem dX5_joined_10 : decode cX5_joined 10 = .ok (.iadd, 1) := by decide +kernel
theorem dX5_joined_11 : decode cX5_joined 11 = .ok (.aload_n 0, 1) := by decide +kernel
theorem dX5_joined_12 : decode cX5_joined 12 = .ok (.getfield 7, 3) := by decide +kernel
theorem dX5_joined_15 : decode cX5_joined 15 = .ok (.if_icmp .gt 43, 3) := by decide +kernel
theorem dX5_joined_18 : decode cX5_joined 18 = .ok (.aload_n 0, 1) := by decide +kernel
theorem dX5_joined_19 : decode cX5_joined 19 = .ok (.getfield 13, 3) := by decide +kernel
theorem dX5_joined_22 : decode cX5_joined 22 = .ok (.iload_n 1, 1) := by decide +kernel
theorem dX5_joined_23 : decode cX5_joined 23 = .ok (.iload_n 2, 1) := by decide +kernel
theorem dX5_joined_24 : decode cX5_joined 24 = .ok (.iadd, 1) := by decide +kernel
theorem dX5_joined_25 : decode cX5_joined 25 = .ok (.iaload, 1) := by decide +kernel
theorem dX5_joined_26 : decode cX5_joined 26 = .ok (.ifCond .ge 32, 3) := by decide +kernel
theorem dX5_joined_29 : decode cX5_joined 29 = .ok (.aload_n 0, 1) := by decide +kernel
theorem dX5_joined_30 : decode cX5_joined 30 = .ok (.iload_n 1, 1) := by decide +kernel
theorem dX5_joined_31 : decode cX5_joined 31 = .ok (.iload_n 2, 1) := by decide +kernel
theorem dX5_joined_32 : decode cX5_joined 32 = .ok (.iadd, 1) := by decide +kernel
theorem dX5_joined_33 : decode cX5_joined 33 = .ok (.invokevirtual 37, 3) := by decide +kernel
theorem dX5_joined_36 : decode cX5_joined 36 = .ok (.istore 4, 2) := by decide +kernel
theorem dX5_joined_38 : decode cX5_joined 38 = .ok (.aload_n 0, 1) := by decide +kernel
theorem dX5_joined_39 : decode cX5_joined 39 = .ok (.getfield 13, 3) := by decide +kernel
theorem dX5_joined_42 : decode cX5_joined 42 = .ok (.iload_n 1, 1) := by decide +kernel
theorem dX5_joined_43 : decode cX5_joined 43 = .ok (.iload_n 2, 1) := by decide +kernel
theorem dX5_joined_44 : decode cX5_joined 44 = .ok (.iadd, 1) := by decide +kernel
theorem dX5_joined_45 : decode cX5_joined 45 = .ok (.iconst 0, 1) := by decide +kernel
theorem dX5_joined_46 : decode cX5_joined 46 = .ok (.iastore, 1) := by decide +kernel
theorem dX5_joined_47 : decode cX5_joined 47 = .ok (.iload_n 2, 1) := by decide +kernel
theorem dX5_joined_48 : decode cX5_joined 48 = .ok (.iload 4, 2) := by decide +kernel
theorem dX5_joined_50 : decode cX5_joined 50 = .ok (.iadd, 1) := by decide +kernel
theorem dX5_joined_51 : decode cX5_joined 51 = .ok (.istore_n 2, 1) := by decide +kernel
theorem dX5_joined_52 : decode cX5_joined 52 = .ok (.iinc 3 1, 3) := by decide +kernel
theorem dX5_joined_55 : decode cX5_joined 55 = .ok (.goto (-47), 3) := by decide +kernel
theorem dX5_joined_58 : decode cX5_joined 58 = .ok (.iload_n 3, 1) := by decide +kernel
theorem dX5_joined_59 : decode cX5_joined 59 = .ok (.ifCond .le 9, 3) := by decide +kernel
theorem dX5_joined_62 : decode cX5_joined 62 = .ok (.aload_n 0, 1) := by decide +kernel
theorem dX5_joined_63 : decode cX5_joined 63 = .ok (.iload_n 1, 1) := by decide +kernel
theorem dX5_joined_64 : decode cX5_joined 64 = .ok (.iload_n 2, 1) := by decide +kernel
theorem dX5_joined_65 : decode cX5_joined 65 = .ok (.invokevirtual 33, 3) := by decide +kernel
theorem dX5_joined_68 : decode cX5_joined 68 = .ok (.iload_n 3, 1) := by decide +kernel
theorem dX5_joined_69 : decode cX5_joined 69 = .ok (.ireturn, 1) := by decide +kernel
theorem dX5_join_0 : decode cX5_join 0 = .ok (.aload_n 0, 1) := by decide +kernel
theorem dX5_join_1 : decode cX5_join 1 = .ok (.aload_n 0, 1) := by decide +kernel
theorem dX5_join_2 : decode cX5_join 2 = .ok (.iload_n 1, 1) := by decide +kernel
theorem dX5_join_3 : decode cX5_join 3 = .ok (.invokevirtual 48, 3) := by decide +kernel
theorem dX5_join_6 : decode cX5_join 6 = .ok (.ifCond .eq 16, 3) := by decide +kernel
theorem dX5_join_9 : decode cX5_join 9 = .ok (.aload_n 0, 1) := by decide +kernel
theorem dX5_join_10 : decode cX5_join 10 = .ok (.getfield 13, 3) := by decide +kernel
theorem dX5_join_13 : decode cX5_join 13 = .ok (.iload_n 1, 1) := by decide +kernel
theorem dX5_join_14 : decode cX5_join 14 = .ok (.iaload, 1) := by decide +kernel
theorem dX5_join_15 : decode cX5_join 15 = .ok (.ifCond .ge 7, 3) := by decide +kernel
theorem dX5_join_18 : decode cX5_join 18 = .ok (.iconst 1, 1) := by decide +kernel
theorem dX5_join_19 : decode cX5_join 19 = .ok (.goto 4, 3) := by decide +kernel
theorem dX5_join_22 : decode cX5_join 22 = .ok (.iconst 0, 1) := by decide +kernel
theorem dX5_join_23 : decode cX5_join 23 = .ok (.invokevirtual 26, 3) := by decide +kernel
theorem dX5_join_26 : decode cX5_join 26 = .ok (.ifCond .ne 5, 3) := by decide +kernel
theorem dX5_join_29 : decode cX5_join 29 = .ok (.iconst 0, 1) := by decide +kernel
theorem dX5_join_30 : decode cX5_join 30 = .ok (.ireturn, 1) := by decide +kernel
theorem dX5_join_31 : decode cX5_join 31 = .ok (.aload_n 0, 1) := by decide +kernel
theorem dX5_join_32 : decode cX5_join 32 = .ok (.iload_n 1, 1) := by decide +kernel
theorem dX5_join_33 : decode cX5_join 33 = .ok (.invokevirtual 51, 3) := by decide +kernel
theorem dX5_join_36 : decode cX5_join 36 = .ok (.istore_n 2, 1) := by decide +kernel
theorem dX5_join_37 : decode cX5_join 37 = .ok (.aload_n 0, 1) := by decide +kernel
theorem dX5_join_38 : decode cX5_join 38 = .ok (.iload_n 1, 1) := by decide +kernel
theorem dX5_join_39 : decode cX5_join 39 = .ok (.invokevirtual 37, 3) := by decide +kernel
theorem dX5_join_42 : decode cX5_join 42 = .ok (.ireturn, 1) := by decide +kernel
theorem dX5_joinAll_0 : decode cX5_joinAll 0 = .ok (.aload_n 0, 1) := by decide +kernel
theorem dX5_joinAll_1 : decode cX5_joinAll 1 = .ok (.iconst 0, 1) := by decide +kernel
theorem dX5_joinAll_2 : decode cX5_joinAll 2 = .ok (.putfield 20, 3) := by decide +kernel
theorem dX5_joinAll_5 : decode cX5_joinAll 5 = .ok (.iconst 0, 1) := by decide +kernel
theorem dX5_joinAll_6 : decode cX5_joinAll 6 = .ok (.istore_n 1, 1) := by decide +kernel
theorem dX5_joinAll_7 : decode cX5_joinAll 7 = .ok (.iconst 1, 1) := by decide +kernel
theorem dX5_joinAll_8 : decode cX5_joinAll 8 = .ok (.istore_n 2, 1) := by decide +kernel
theorem dX5_joinAll_9 : decode cX5_joinAll 9 = .ok (.iload_n 2, 1) := by decide +kernel
theorem dX5_joinAll_10 : decode cX5_joinAll 10 = .ok (.aload_n 0, 1) := by decide +kernel
theorem dX5_joinAll_11 : decode cX5_joinAll 11 = .ok (.getfield 7, 3) := by decide +kernel
theorem dX5_joinAll_14 : decode cX5_joinAll 14 = .ok (.if_icmp .gt 35, 3) := by decide +kernel
theorem dX5_joinAll_17 : decode cX5_joinAll 17 = .ok (.aload_n 0, 1) := by decide +kernel
theorem dX5_joinAll_18 : decode cX5_joinAll 18 = .ok (.getfield 13, 3) := by decide +kernel
theorem dX5_joinAll_21 : decode cX5_joinAll 21 = .ok (.iload_n 2, 1) := by decide +kernel
theorem dX5_joinAll_22 : decode cX5_joinAll 22 = .ok (.iaload, 1) := by decide +kernel
theorem dX5_joinAll_23 : decode cX5_joinAll 23 = .ok (.ifCond .ge 13, 3) := by decide +kernel
theorem dX5_joinAll_26 : decode cX5_joinAll 26 = .ok (.iload_n 1, 1) := by decide +kernel
theorem dX5_joinAll_27 : decode cX5_joinAll 27 = .ok (.aload_n 0, 1) := by decide +kernel
theorem dX5_joinAll_28 : decode cX5_joinAll 28 = .ok (.iload_n 2, 1) := by decide +kernel
theorem dX5_joinAll_29 : decode cX5_joinAll 29 = .ok (.invokevirtual 51, 3) := by decide +kernel
theorem dX5_joinAll_32 : decode cX5_joinAll 32 = .ok (.iadd, 1) := by decide +kernel
theorem dX5_joinAll_33 : decode cX5_joinAll 33 = .ok (.goto 4, 3) := by decide +kernel
theorem dX5_joinAll_36 : decode cX5_joinAll 36 = .ok (.iload_n 1, 1) := by decide +kernel
theorem dX5_joinAll_37 : decode cX5_joinAll 37 = .ok (.istore_n 1, 1) := by decide +kernel
theorem dX5_joinAll_38 : decode cX5_joinAll 38 = .ok (.iload_n 2, 1) := by decide +kernel
theorem dX5_joinAll_39 : decode cX5_joinAll 39 = .ok (.aload_n 0, 1) := by decide +kernel
theorem dX5_joinAll_40 : decode cX5_joinAll 40 = .ok (.iload_n 2, 1) := by decide +kernel
theorem dX5_joinAll_41 : decode cX5_joinAll 41 = .ok (.invokevirtual 37, 3) := by decide +kernel
theorem dX5_joinAll_44 : decode cX5_joinAll 44 = .ok (.iadd, 1) := by decide +kernel
theorem dX5_joinAll_45 : decode cX5_joinAll 45 = .ok (.istore_n 2, 1) := by decide +kernel
theorem dX5_joinAll_46 : decode cX5_joinAll 46 = .ok (.goto (-37), 3) := by decide +kernel
theorem dX5_joinAll_49 : decode cX5_joinAll 49 = .ok (.iload_n 1, 1) := by decide +kernel
theorem dX5_joinAll_50 : decode cX5_joinAll 50 = .ok (.ireturn, 1) := by decide +kernel
theorem dX5_suffices_0 : decode cX5_suffices 0 = .ok (.aload_n 0, 1) := by decide +kernel
theorem dX5_suffices_1 : decode cX5_suffices 1 = .ok (.iload_n 1, 1) := by decide +kernel
theorem dX5_suffices_2 : decode cX5_suffices 2 = .ok (.invokestatic 41, 3) := by decide +kernel
theorem dX5_suffices_5 : decode cX5_suffices 5 = .ok (.invokevirtual 26, 3) := by decide +kernel
theorem dX5_suffices_8 : decode cX5_suffices 8 = .ok (.ifCond .eq 11, 3) := by decide +kernel
theorem dX5_suffices_11 : decode cX5_suffices 11 = .ok (.aload_n 0, 1) := by decide +kernel
theorem dX5_suffices_12 : decode cX5_suffices 12 = .ok (.iload_n 1, 1) := by decide +kernel
theorem dX5_suffices_13 : decode cX5_suffices 13 = .ok (.invokevirtual 45, 3) := by decide +kernel
theorem dX5_suffices_16 : decode cX5_suffices 16 = .ok (.goto 4, 3) := by decide +kernel
theorem dX5_suffices_19 : decode cX5_suffices 19 = .ok (.iconst 0, 1) := by decide +kernel
theorem dX5_suffices_20 : decode cX5_suffices 20 = .ok (.ireturn, 1) := by decide +kernel
theorem dX5_piece_0 : decode cX5_piece 0 = .ok (.aload_n 0, 1) := by decide +kernel
theorem dX5_piece_1 : decode cX5_piece 1 = .ok (.iconst 0, 1) := by decide +kernel
theorem dX5_piece_2 : decode cX5_piece 2 = .ok (.putfield 20, 3) := by decide +kernel
theorem dX5_piece_5 : decode cX5_piece 5 = .ok (.aload_n 0, 1) := by decide +kernel
theorem dX5_piece_6 : decode cX5_piece 6 = .ok (.iload_n 1, 1) := by decide +kernel
theorem dX5_piece_7 : decode cX5_piece 7 = .ok (.invokevirtual 48, 3) := by decide +kernel
theorem dX5_piece_10 : decode cX5_piece 10 = .ok (.ifCond .eq 12, 3) := by decide +kernel
theorem dX5_piece_13 : decode cX5_piece 13 = .ok (.aload_n 0, 1) := by decide +kernel
theorem dX5_piece_14 : decode cX5_piece 14 = .ok (.getfield 13, 3) := by decide +kernel
theorem dX5_piece_17 : decode cX5_piece 17 = .ok (.iload_n 1, 1) := by decide +kernel
theorem dX5_piece_18 : decode cX5_piece 18 = .ok (.iaload, 1) := by decide +kernel
theorem dX5_piece_19 : decode cX5_piece 19 = .ok (.goto 4, 3) := by decide +kernel
theorem dX5_piece_22 : decode cX5_piece 22 = .ok (.iconst 0, 1) := by decide +kernel
theorem dX5_piece_23 : decode cX5_piece 23 = .ok (.ireturn, 1) := by decide +kernel
theorem dX5_cover_0 : decode cX5_cover 0 = .ok (.aload_n 0, 1) := by decide +kernel
theorem dX5_cover_1 : decode cX5_cover 1 = .ok (.iconst 0, 1) := by decide +kernel
theorem dX5_cover_2 : decode cX5_cover 2 = .ok (.putfield 20, 3) := by decide +kernel
theorem dX5_cover_5 : decode cX5_cover 5 = .ok (.aload_n 0, 1) := by decide +kernel
theorem dX5_cover_6 : decode cX5_cover 6 = .ok (.iload_n 1, 1) := by decide +kernel
theorem dX5_cover_7 : decode cX5_cover 7 = .ok (.invokevirtual 48, 3) := by decide +kernel
theorem dX5_cover_10 : decode cX5_cover 10 = .ok (.ifCond .eq 7, 3) := by decide +kernel
theorem dX5_cover_13 : decode cX5_cover 13 = .ok (.iload_n 1, 1) := by decide +kernel
theorem dX5_cover_14 : decode cX5_cover 14 = .ok (.goto 4, 3) := by decide +kernel
theorem dX5_cover_17 : decode cX5_cover 17 = .ok (.iconst 0, 1) := by decide +kernel
theorem dX5_cover_18 : decode cX5_cover 18 = .ok (.istore_n 2, 1) := by decide +kernel
theorem dX5_cover_19 : decode cX5_cover 19 = .ok (.iload_n 2, 1) := by decide +kernel
theorem dX5_cover_20 : decode cX5_cover 20 = .ok (.ifCond .le 18, 3) := by decide +kernel
theorem dX5_cover_23 : decode cX5_cover 23 = .ok (.aload_n 0, 1) := by decide +kernel
theorem dX5_cover_24 : decode cX5_cover 24 = .ok (.getfield 13, 3) := by decide +kernel
theorem dX5_cover_27 : decode cX5_cover 27 = .ok (.iload_n 2, 1) := by decide +kernel
theorem dX5_cover_28 : decode cX5_cover 28 = .ok (.iaload, 1) := by decide +kernel
theorem dX5_cover_29 : decode cX5_cover 29 = .ok (.ifCond .ne 9, 3) := by decide +kernel
theorem dX5_cover_32 : decode cX5_cover 32 = .ok (.iinc 2 (-1), 3) := by decide +kernel
theorem dX5_cover_35 : decode cX5_cover 35 = .ok (.goto (-16), 3) := by decide +kernel
theorem dX5_cover_38 : decode cX5_cover 38 = .ok (.iload_n 2, 1) := by decide +kernel
theorem dX5_cover_39 : decode cX5_cover 39 = .ok (.ireturn, 1) := by decide +kernel
theorem dX5_free_0 : decode cX5_free 0 = .ok (.aload_n 0, 1) := by decide +kernel
theorem dX5_free_1 : decode cX5_free 1 = .ok (.iload_n 2, 1) := by decide +kernel
theorem dX5_free_2 : decode cX5_free 2 = .ok (.ifCond .lt 7, 3) := by decide +kernel
theorem dX5_free_5 : decode cX5_free 5 = .ok (.iconst 1, 1) := by decide +kernel
theorem dX5_free_6 : decode cX5_free 6 = .ok (.goto 4, 3) := by decide +kernel
theorem dX5_free_9 : decode cX5_free 9 = .ok (.iconst 0, 1) := by decide +kernel
theorem dX5_free_10 : decode cX5_free 10 = .ok (.invokevirtual 26, 3) := by decide +kernel
theorem dX5_free_13 : decode cX5_free 13 = .ok (.ifCond .eq 8, 3) := by decide +kernel
theorem dX5_free_16 : decode cX5_free 16 = .ok (.iload_n 1, 1) := by decide +kernel
theorem dX5_free_17 : decode cX5_free 17 = .ok (.iconst 3, 1) := by decide +kernel
theorem dX5_free_18 : decode cX5_free 18 = .ok (.if_icmp .ge 5, 3) := by decide +kernel
theorem dX5_free_21 : decode cX5_free 21 = .ok (.iconst 0, 1) := by decide +kernel
theorem dX5_free_22 : decode cX5_free 22 = .ok (.ireturn, 1) := by decide +kernel
theorem dX5_free_23 : decode cX5_free 23 = .ok (.iconst 1, 1) := by decide +kernel
theorem dX5_free_24 : decode cX5_free 24 = .ok (.istore_n 3, 1) := by decide +kernel
theorem dX5_free_25 : decode cX5_free 25 = .ok (.iload_n 3, 1) := by decide +kernel
theorem dX5_free_26 : decode cX5_free 26 = .ok (.aload_n 0, 1) := by decide +kernel
theorem dX5_free_27 : decode cX5_free 27 = .ok (.getfield 7, 3) := by decide +kernel
theorem dX5_free_30 : decode cX5_free 30 = .ok (.if_icmp .gt 103, 3) := by decide +kernel
theorem dX5_free_33 : decode cX5_free 33 = .ok (.iconst 0, 1) := by decide +kernel
theorem dX5_free_34 : decode cX5_free 34 = .ok (.istore 4, 2) := by decide +kernel
theorem dX5_free_36 : decode cX5_free 36 = .ok (.iconst 1, 1) := by decide +kernel
theorem dX5_free_37 : decode cX5_free 37 = .ok (.istore 5, 2) := by decide +kernel
theorem dX5_free_39 : decode cX5_free 39 = .ok (.iload 5, 2) := by decide +kernel
theorem dX5_free_41 : decode cX5_free 41 = .ok (.aload_n 0, 1) := by decide +kernel
theorem dX5_free_42 : decode cX5_free 42 = .ok (.getfield 7, 3) := by decide +kernel
theorem dX5_free_45 : decode cX5_free 45 = .ok (.if_icmp .gt 57, 3) := by decide +kernel
theorem dX5_free_48 : decode cX5_free 48 = .ok (.aload_n 0, 1) := by decide +kernel
theorem dX5_free_49 : decode cX5_free 49 = .ok (.getfield 13, 3) := by decide +kernel
theorem dX5_free_52 : decode cX5_free 52 = .ok (.iload 5, 2) := by decide +kernel
theorem dX5_free_54 : decode cX5_free 54 = .ok (.iaload, 1) := by decide +kernel
theorem dX5_free_55 : decode cX5_free 55 = .ok (.iconst 0, 1) := by decide +kernel
theorem dX5_free_56 : decode cX5_free 56 = .ok (.iload_n 1, 1) := by decide +kernel
theorem dX5_free_57 : decode cX5_free 57 = .ok (.isub, 1) := by decide +kernel
theorem dX5_free_58 : decode cX5_free 58 = .ok (.if_icmp .ne 26, 3) := by decide +kernel
theorem dX5_free_61 : decode cX5_free 61 = .ok (.aload_n 0, 1) := by decide +kernel
theorem dX5_free_62 : decode cX5_free 62 = .ok (.getfield 17, 3) := by decide +kernel
theorem dX5_free_65 : decode cX5_free 65 = .ok (.iload 5, 2) := by decide +kernel
theorem dX5_free_67 : decode cX5_free 67 = .ok (.iaload, 1) := by decide +kernel
theorem dX5_free_68 : decode cX5_free 68 = .ok (.aload_n 0, 1) := by decide +kernel
theorem dX5_free_69 : decode cX5_free 69 = .ok (.getfield 17, 3) := by decide +kernel
theorem dX5_free_72 : decode cX5_free 72 = .ok (.iload_n 3, 1) := by decide +kernel
theorem dX5_free_73 : decode cX5_free 73 = .ok (.iaload, 1) := by decide +kernel
theorem dX5_free_74 : decode cX5_free 74 = .ok (.if_icmp .le 10, 3) := by decide +kernel
theorem dX5_free_77 : decode cX5_free 77 = .ok (.iload 4, 2) := by decide +kernel
theorem dX5_free_79 : decode cX5_free 79 = .ok (.iconst 1, 1) := by decide +kernel
theorem dX5_free_80 : decode cX5_free 80 = .ok (.iadd, 1) := by decide +kernel
theorem dX5_free_81 : decode cX5_free 81 = .ok (.goto 5, 3) := by decide +kernel
theorem dX5_free_84 : decode cX5_free 84 = .ok (.iload 4, 2) := by decide +kernel
theorem dX5_free_86 : decode cX5_free 86 = .ok (.istore 4, 2) := by decide +kernel
theorem dX5_free_88 : decode cX5_free 88 = .ok (.iload 5, 2) := by decide +kernel
theorem dX5_free_90 : decode cX5_free 90 = .ok (.aload_n 0, 1) := by decide +kernel
theorem dX5_free_91 : decode cX5_free 91 = .ok (.iload 5, 2) := by decide +kernel
theorem dX5_free_93 : decode cX5_free 93 = .ok (.invokevirtual 37, 3) := by decide +kernel
theorem dX5_free_96 : decode cX5_free 96 = .ok (.iadd, 1) := by decide +kernel
theorem dX5_free_97 : decode cX5_free 97 = .ok (.istore 5, 2) := by decide +kernel
theorem dX5_free_99 : decode cX5_free 99 = .ok (.goto (-60), 3) := by decide +kernel
theorem dX5_free_102 : decode cX5_free 102 = .ok (.aload_n 0, 1) := by decide +kernel
theorem dX5_free_103 : decode cX5_free 103 = .ok (.getfield 13, 3) := by decide +kernel
theorem dX5_free_106 : decode cX5_free 106 = .ok (.iload_n 3, 1) := by decide +kernel
theorem dX5_free_107 : decode cX5_free 107 = .ok (.iaload, 1) := by decide +kernel
theorem dX5_free_108 : decode cX5_free 108 = .ok (.iconst 0, 1) := by decide +kernel
theorem dX5_free_109 : decode cX5_free 109 = .ok (.iload_n 1, 1) := by decide +kernel
theorem dX5_free_110 : decode cX5_free 110 = .ok (.isub, 1) := by decide +kernel
theorem dX5_free_111 : decode cX5_free 111 = .ok (.if_icmp .ne 11, 3) := by decide +kernel
theorem dX5_free_114 : decode cX5_free 114 = .ok (.iload 4, 2) := by decide +kernel
theorem dX5_free_116 : decode cX5_free 116 = .ok (.iload_n 2, 1) := by decide +kernel
theorem dX5_free_117 : decode cX5_free 117 = .ok (.if_icmp .ne 5, 3) := by decide +kernel
theorem dX5_free_120 : decode cX5_free 120 = .ok (.iload_n 3, 1) := by decide +kernel
theorem dX5_free_121 : decode cX5_free 121 = .ok (.ireturn, 1) := by decide +kernel
theorem dX5_free_122 : decode cX5_free 122 = .ok (.iload_n 3, 1) := by decide +kernel
theorem dX5_free_123 : decode cX5_free 123 = .ok (.aload_n 0, 1) := by decide +kernel
theorem dX5_free_124 : decode cX5_free 124 = .ok (.iload_n 3, 1) := by decide +kernel
theorem dX5_free_125 : decode cX5_free 125 = .ok (.invokevirtual 37, 3) := by decide +kernel
theorem dX5_free_128 : decode cX5_free 128 = .ok (.iadd, 1) := by decide +kernel
theorem dX5_free_129 : decode cX5_free 129 = .ok (.istore_n 3, 1) := by decide +kernel
theorem dX5_free_130 : decode cX5_free 130 = .ok (.goto (-105), 3) := by decide +kernel
theorem dX5_free_133 : decode cX5_free 133 = .ok (.iconst 0, 1) := by decide +kernel
theorem dX5_free_134 : decode cX5_free 134 = .ok (.ireturn, 1) := by decide +kernel
theorem dX5_greatest_0 : decode cX5_greatest 0 = .ok (.iconst 0, 1) := by decide +kernel
theorem dX5_greatest_1 : decode cX5_greatest 1 = .ok (.istore_n 1, 1) := by decide +kernel
theorem dX5_greatest_2 : decode cX5_greatest 2 = .ok (.iconst 1, 1) := by decide +kernel
theorem dX5_greatest_3 : decode cX5_greatest 3 = .ok (.istore_n 2, 1) := by decide +kernel
theorem dX5_greatest_4 : decode cX5_greatest 4 = .ok (.iload_n 2, 1) := by decide +kernel
theorem dX5_greatest_5 : decode cX5_greatest 5 = .ok (.aload_n 0, 1) := by decide +kernel
theorem dX5_greatest_6 : decode cX5_greatest 6 = .ok (.getfield 7, 3) := by decide +kernel
theorem dX5_greatest_9 : decode cX5_greatest 9 = .ok (.if_icmp .gt 42, 3) := by decide +kernel
theorem dX5_greatest_12 : decode cX5_greatest 12 = .ok (.aload_n 0, 1) := by decide +kernel
theorem dX5_greatest_13 : decode cX5_greatest 13 = .ok (.getfield 13, 3) := by decide +kernel
theorem dX5_greatest_16 : decode cX5_greatest 16 = .ok (.iload_n 2, 1) := by decide +kernel
theorem dX5_greatest_17 : decode cX5_greatest 17 = .ok (.iaload, 1) := by decide +kernel
theorem dX5_greatest_18 : decode cX5_greatest 18 = .ok (.ifCond .ge 20, 3) := by decide +kernel
theorem dX5_greatest_21 : decode cX5_greatest 21 = .ok (.aload_n 0, 1) := by decide +kernel
theorem dX5_greatest_22 : decode cX5_greatest 22 = .ok (.iload_n 2, 1) := by decide +kernel
theorem dX5_greatest_23 : decode cX5_greatest 23 = .ok (.invokevirtual 37, 3) := by decide +kernel
theorem dX5_greatest_26 : decode cX5_greatest 26 = .ok (.iload_n 1, 1) := by decide +kernel
theorem dX5_greatest_27 : decode cX5_greatest 27 = .ok (.if_icmp .le 11, 3) := by decide +kernel
theorem dX5_greatest_30 : decode cX5_greatest 30 = .ok (.aload_n 0, 1) := by decide +kernel
theorem dX5_greatest_31 : decode cX5_greatest 31 = .ok (.iload_n 2, 1) := by decide +kernel
theorem dX5_greatest_32 : decode cX5_greatest 32 = .ok (.invokevirtual 37, 3) := by decide +kernel
theorem dX5_greatest_35 : decode cX5_greatest 35 = .ok (.goto 4, 3) := by decide +kernel
theorem dX5_greatest_38 : decode cX5_greatest 38 = .ok (.iload_n 1, 1) := by decide +kernel
theorem dX5_greatest_39 : decode cX5_greatest 39 = .ok (.istore_n 1, 1) := by decide +kernel
theorem dX5_greatest_40 : decode cX5_greatest 40 = .ok (.iload_n 2, 1) := by decide +kernel
theorem dX5_greatest_41 : decode cX5_greatest 41 = .ok (.aload_n 0, 1) := by decide +kernel
theorem dX5_greatest_42 : decode cX5_greatest 42 = .ok (.iload_n 2, 1) := by decide +kernel
theorem dX5_greatest_43 : decode cX5_greatest 43 = .ok (.invokevirtual 37, 3) := by decide +kernel
theorem dX5_greatest_46 : decode cX5_greatest 46 = .ok (.iadd, 1) := by decide +kernel
theorem dX5_greatest_47 : decode cX5_greatest 47 = .ok (.istore_n 2, 1) := by decide +kernel
theorem dX5_greatest_48 : decode cX5_greatest 48 = .ok (.goto (-44), 3) := by decide +kernel
theorem dX5_greatest_51 : decode cX5_greatest 51 = .ok (.iload_n 1, 1) := by decide +kernel
theorem dX5_greatest_52 : decode cX5_greatest 52 = .ok (.ireturn, 1) := by decide +kernel
theorem dX5_count_0 : decode cX5_count 0 = .ok (.aload_n 0, 1) := by decide +kernel
theorem dX5_count_1 : decode cX5_count 1 = .ok (.iload_n 1, 1) := by decide +kernel
theorem dX5_count_2 : decode cX5_count 2 = .ok (.ifCond .lt 13, 3) := by decide +kernel
theorem dX5_count_5 : decode cX5_count 5 = .ok (.iload_n 1, 1) := by decide +kernel
theorem dX5_count_6 : decode cX5_count 6 = .ok (.bipush 7, 2) := by decide +kernel
theorem dX5_count_8 : decode cX5_count 8 = .ok (.if_icmp .gt 7, 3) := by decide +kernel
theorem dX5_count_11 : decode cX5_count 11 = .ok (.iconst 1, 1) := by decide +kernel
theorem dX5_count_12 : decode cX5_count 12 = .ok (.goto 4, 3) := by decide +kernel
theorem dX5_count_15 : decode cX5_count 15 = .ok (.iconst 0, 1) := by decide +kernel
theorem dX5_count_16 : decode cX5_count 16 = .ok (.invokevirtual 26, 3) := by decide +kernel
theorem dX5_count_19 : decode cX5_count 19 = .ok (.ifCond .ne 5, 3) := by decide +kernel
theorem dX5_count_22 : decode cX5_count 22 = .ok (.iconst 0, 1) := by decide +kernel
theorem dX5_count_23 : decode cX5_count 23 = .ok (.ireturn, 1) := by decide +kernel
theorem dX5_count_24 : decode cX5_count 24 = .ok (.iconst 0, 1) := by decide +kernel
theorem dX5_count_25 : decode cX5_count 25 = .ok (.istore_n 2, 1) := by decide +kernel
theorem dX5_count_26 : decode cX5_count 26 = .ok (.iconst 0, 1) := by decide +kernel
theorem dX5_count_27 : decode cX5_count 27 = .ok (.istore_n 3, 1) := by decide +kernel
theorem dX5_count_28 : decode cX5_count 28 = .ok (.iconst 0, 1) := by decide +kernel
theorem dX5_count_29 : decode cX5_count 29 = .ok (.istore 4, 2) := by decide +kernel
theorem dX5_count_31 : decode cX5_count 31 = .ok (.iconst 0, 1) := by decide +kernel
theorem dX5_count_32 : decode cX5_count 32 = .ok (.istore 5, 2) := by decide +kernel
theorem dX5_count_34 : decode cX5_count 34 = .ok (.iconst 0, 1) := by decide +kernel
theorem dX5_count_35 : decode cX5_count 35 = .ok (.istore 6, 2) := by decide +kernel
theorem dX5_count_37 : decode cX5_count 37 = .ok (.iconst 1, 1) := by decide +kernel
theorem dX5_count_38 : decode cX5_count 38 = .ok (.istore 7, 2) := by decide +kernel
theorem dX5_count_40 : decode cX5_count 40 = .ok (.iload 7, 2) := by decide +kernel
theorem dX5_count_42 : decode cX5_count 42 = .ok (.aload_n 0, 1) := by decide +kernel
theorem dX5_count_43 : decode cX5_count 43 = .ok (.getfield 7, 3) := by decide +kernel
theorem dX5_count_46 : decode cX5_count 46 = .ok (.if_icmp .gt 152, 3) := by decide +kernel
theorem dX5_count_49 : decode cX5_count 49 = .ok (.aload_n 0, 1) := by decide +kernel
theorem dX5_count_50 : decode cX5_count 50 = .ok (.getfield 13, 3) := by decide +kernel
theorem dX5_count_53 : decode cX5_count 53 = .ok (.iload 7, 2) := by decide +kernel
theorem dX5_count_55 : decode cX5_count 55 = .ok (.iaload, 1) := by decide +kernel
theorem dX5_count_56 : decode cX5_count 56 = .ok (.ifCond .le 9, 3) := by decide +kernel
theorem dX5_count_59 : decode cX5_count 59 = .ok (.iload_n 3, 1) := by decide +kernel
theorem dX5_count_60 : decode cX5_count 60 = .ok (.iconst 1, 1) := by decide +kernel
theorem dX5_count_61 : decode cX5_count 61 = .ok (.iadd, 1) := by decide +kernel
theorem dX5_count_62 : decode cX5_count 62 = .ok (.goto 4, 3) := by decide +kernel
theorem dX5_count_65 : decode cX5_count 65 = .ok (.iload_n 3, 1) := by decide +kernel
theorem dX5_count_66 : decode cX5_count 66 = .ok (.istore_n 3, 1) := by decide +kernel
theorem dX5_count_67 : decode cX5_count 67 = .ok (.aload_n 0, 1) := by decide +kernel
theorem dX5_count_68 : decode cX5_count 68 = .ok (.getfield 13, 3) := by decide +kernel
theorem dX5_count_71 : decode cX5_count 71 = .ok (.iload 7, 2) := by decide +kernel
theorem dX5_count_73 : decode cX5_count 73 = .ok (.iaload, 1) := by decide +kernel
theorem dX5_count_74 : decode cX5_count 74 = .ok (.ifCond .ge 14, 3) := by decide +kernel
theorem dX5_count_77 : decode cX5_count 77 = .ok (.iload_n 2, 1) := by decide +kernel
theorem dX5_count_78 : decode cX5_count 78 = .ok (.aload_n 0, 1) := by decide +kernel
theorem dX5_count_79 : decode cX5_count 79 = .ok (.iload 7, 2) := by decide +kernel
theorem dX5_count_81 : decode cX5_count 81 = .ok (.invokevirtual 37, 3) := by decide +kernel
theorem dX5_count_84 : decode cX5_count 84 = .ok (.iadd, 1) := by decide +kernel
theorem dX5_count_85 : decode cX5_count 85 = .ok (.goto 4, 3) := by decide +kernel
theorem dX5_count_88 : decode cX5_count 88 = .ok (.iload_n 2, 1) := by decide +kernel
theorem dX5_count_89 : decode cX5_count 89 = .ok (.istore_n 2, 1) := by decide +kernel
theorem dX5_count_90 : decode cX5_count 90 = .ok (.aload_n 0, 1) := by decide +kernel
theorem dX5_count_91 : decode cX5_count 91 = .ok (.getfield 13, 3) := by decide +kernel
theorem dX5_count_94 : decode cX5_count 94 = .ok (.iload 7, 2) := by decide +kernel
theorem dX5_count_96 : decode cX5_count 96 = .ok (.iaload, 1) := by decide +kernel
theorem dX5_count_97 : decode cX5_count 97 = .ok (.bipush (-3), 2) := by decide +kernel
theorem dX5_count_99 : decode cX5_count 99 = .ok (.if_icmp .gt 10, 3) := by decide +kernel
theorem dX5_count_102 : decode cX5_count 102 = .ok (.iload 4, 2) := by decide +kernel
theorem dX5_count_104 : decode cX5_count 104 = .ok (.iconst 1, 1) := by decide +kernel
theorem dX5_count_105 : decode cX5_count 105 = .ok (.iadd, 1) := by decide +kernel
theorem dX5_count_106 : decode cX5_count 106 = .ok (.goto 5, 3) := by decide +kernel
theorem dX5_count_109 : decode cX5_count 109 = .ok (.iload 4, 2) := by decide +kernel
theorem dX5_count_111 : decode cX5_count 111 = .ok (.istore 4, 2) := by decide +kernel
theorem dX5_count_113 : decode cX5_count 113 = .ok (.aload_n 0, 1) := by decide +kernel
theorem dX5_count_114 : decode cX5_count 114 = .ok (.getfield 13, 3) := by decide +kernel
theorem dX5_count_117 : decode cX5_count 117 = .ok (.iload 7, 2) := by decide +kernel
theorem dX5_count_119 : decode cX5_count 119 = .ok (.iaload, 1) := by decide +kernel
theorem dX5_count_120 : decode cX5_count 120 = .ok (.ifCond .ge 22, 3) := by decide +kernel
theorem dX5_count_123 : decode cX5_count 123 = .ok (.aload_n 0, 1) := by decide +kernel
theorem dX5_count_124 : decode cX5_count 124 = .ok (.getfield 13, 3) := by decide +kernel
theorem dX5_count_127 : decode cX5_count 127 = .ok (.iload 7, 2) := by decide +kernel
theorem dX5_count_129 : decode cX5_count 129 = .ok (.iaload, 1) := by decide +kernel
theorem dX5_count_130 : decode cX5_count 130 = .ok (.bipush (-3), 2) := by decide +kernel
theorem dX5_count_132 : decode cX5_count 132 = .ok (.if_icmp .le 10, 3) := by decide +kernel
theorem dX5_count_135 : decode cX5_count 135 = .ok (.iload 5, 2) := by decide +kernel
theorem dX5_count_137 : decode cX5_count 137 = .ok (.iconst 1, 1) := by decide +kernel
theorem dX5_count_138 : decode cX5_count 138 = .ok (.iadd, 1) := by decide +kernel
theorem dX5_count_139 : decode cX5_count 139 = .ok (.goto 5, 3) := by decide +kernel
theorem dX5_count_142 : decode cX5_count 142 = .ok (.iload 5, 2) := by decide +kernel
theorem dX5_count_144 : decode cX5_count 144 = .ok (.istore 5, 2) := by decide +kernel
theorem dX5_count_146 : decode cX5_count 146 = .ok (.aload_n 0, 1) := by decide +kernel
theorem dX5_count_147 : decode cX5_count 147 = .ok (.getfield 13, 3) := by decide +kernel
theorem dX5_count_150 : decode cX5_count 150 = .ok (.iload 7, 2) := by decide +kernel
theorem dX5_count_152 : decode cX5_count 152 = .ok (.iaload, 1) := by decide +kernel
theorem dX5_count_153 : decode cX5_count 153 = .ok (.ifCond .ge 27, 3) := by decide +kernel
theorem dX5_count_156 : decode cX5_count 156 = .ok (.aload_n 0, 1) := by decide +kernel
theorem dX5_count_157 : decode cX5_count 157 = .ok (.getfield 13, 3) := by decide +kernel
theorem dX5_count_160 : decode cX5_count 160 = .ok (.iload 7, 2) := by decide +kernel
theorem dX5_count_162 : decode cX5_count 162 = .ok (.iaload, 1) := by decide +kernel
theorem dX5_count_163 : decode cX5_count 163 = .ok (.bipush (-3), 2) := by decide +kernel
theorem dX5_count_165 : decode cX5_count 165 = .ok (.if_icmp .le 15, 3) := by decide +kernel
theorem dX5_count_168 : decode cX5_count 168 = .ok (.iload 6, 2) := by decide +kernel
theorem dX5_count_170 : decode cX5_count 170 = .ok (.aload_n 0, 1) := by decide +kernel
theorem dX5_count_171 : decode cX5_count 171 = .ok (.iload 7, 2) := by decide +kernel
theorem dX5_count_173 : decode cX5_count 173 = .ok (.invokevirtual 37, 3) := by decide +kernel
theorem dX5_count_176 : decode cX5_count 176 = .ok (.iadd, 1) := by decide +kernel
theorem dX5_count_177 : decode cX5_count 177 = .ok (.goto 5, 3) := by decide +kernel
theorem dX5_count_180 : decode cX5_count 180 = .ok (.iload 6, 2) := by decide +kernel
theorem dX5_count_182 : decode cX5_count 182 = .ok (.istore 6, 2) := by decide +kernel
theorem dX5_count_184 : decode cX5_count 184 = .ok (.iload 7, 2) := by decide +kernel
theorem dX5_count_186 : decode cX5_count 186 = .ok (.aload_n 0, 1) := by decide +kernel
theorem dX5_count_187 : decode cX5_count 187 = .ok (.iload 7, 2) := by decide +kernel
theorem dX5_count_189 : decode cX5_count 189 = .ok (.invokevirtual 37, 3) := by decide +kernel
theorem dX5_count_192 : decode cX5_count 192 = .ok (.iadd, 1) := by decide +kernel
theorem dX5_count_193 : decode cX5_count 193 = .ok (.istore 7, 2) := by decide +kernel
theorem dX5_count_195 : decode cX5_count 195 = .ok (.goto (-155), 3) := by decide +kernel
theorem dX5_count_198 : decode cX5_count 198 = .ok (.iload_n 1, 1) := by decide +kernel
theorem dX5_count_199 : decode cX5_count 199 = .ok (.tableswitch 64 0 6 #[41, 43, 46, 48, 51, 54, 59], 41) := by decide +kernel
theorem dX5_count_240 : decode cX5_count 240 = .ok (.iload_n 2, 1) := by decide +kernel
theorem dX5_count_241 : decode cX5_count 241 = .ok (.ireturn, 1) := by decide +kernel
theorem dX5_count_242 : decode cX5_count 242 = .ok (.iload 6, 2) := by decide +kernel
theorem dX5_count_244 : decode cX5_count 244 = .ok (.ireturn, 1) := by decide +kernel
theorem dX5_count_245 : decode cX5_count 245 = .ok (.iload_n 3, 1) := by decide +kernel
theorem dX5_count_246 : decode cX5_count 246 = .ok (.ireturn, 1) := by decide +kernel
theorem dX5_count_247 : decode cX5_count 247 = .ok (.iload 4, 2) := by decide +kernel
theorem dX5_count_249 : decode cX5_count 249 = .ok (.ireturn, 1) := by decide +kernel
theorem dX5_count_250 : decode cX5_count 250 = .ok (.iload 5, 2) := by decide +kernel
theorem dX5_count_252 : decode cX5_count 252 = .ok (.ireturn, 1) := by decide +kernel
theorem dX5_count_253 : decode cX5_count 253 = .ok (.aload_n 0, 1) := by decide +kernel
theorem dX5_count_254 : decode cX5_count 254 = .ok (.invokevirtual 54, 3) := by decide +kernel
theorem dX5_count_257 : decode cX5_count 257 = .ok (.ireturn, 1) := by decide +kernel
theorem dX5_count_258 : decode cX5_count 258 = .ok (.aload_n 0, 1) := by decide +kernel
theorem dX5_count_259 : decode cX5_count 259 = .ok (.getfield 30, 3) := by decide +kernel
theorem dX5_count_262 : decode cX5_count 262 = .ok (.ireturn, 1) := by decide +kernel
theorem dX5_count_263 : decode cX5_count 263 = .ok (.aload_n 0, 1) := by decide +kernel
theorem dX5_count_264 : decode cX5_count 264 = .ok (.getfield 7, 3) := by decide +kernel
theorem dX5_count_267 : decode cX5_count 267 = .ok (.ireturn, 1) := by decide +kernel
theorem dX5_faults_0 : decode cX5_faults 0 = .ok (.aload_n 0, 1) := by decide +kernel
theorem dX5_faults_1 : decode cX5_faults 1 = .ok (.iconst 0, 1) := by decide +kernel
theorem dX5_faults_2 : decode cX5_faults 2 = .ok (.putfield 20, 3) := by decide +kernel
theorem dX5_faults_5 : decode cX5_faults 5 = .ok (.iconst 0, 1) := by decide +kernel
theorem dX5_faults_6 : decode cX5_faults 6 = .ok (.ireturn, 1) := by decide +kernel
theorem dJ9_max_7cf53_0 : decode cJ9_max_7cf53 0 = .ok (.iload_n 0, 1) := by decide +kernel
theorem dJ9_max_7cf53_1 : decode cJ9_max_7cf53 1 = .ok (.iload_n 1, 1) := by decide +kernel
theorem dJ9_max_7cf53_2 : decode cJ9_max_7cf53 2 = .ok (.if_icmp .lt 7, 3) := by decide +kernel
theorem dJ9_max_7cf53_5 : decode cJ9_max_7cf53 5 = .ok (.iload_n 0, 1) := by decide +kernel
theorem dJ9_max_7cf53_6 : decode cJ9_max_7cf53 6 = .ok (.goto 4, 3) := by decide +kernel
theorem dJ9_max_7cf53_9 : decode cJ9_max_7cf53 9 = .ok (.iload_n 1, 1) := by decide +kernel
theorem dJ9_max_7cf53_10 : decode cJ9_max_7cf53 10 = .ok (.ireturn, 1) := by decide +kernel
theorem dL_space_0 : decode cL_space 0 = .ok (.aload_n 2, 1) := by decide +kernel
theorem dL_space_1 : decode cL_space 1 = .ok (.iconst 0, 1) := by decide +kernel
theorem dL_space_2 : decode cL_space 2 = .ok (.aload_n 0, 1) := by decide +kernel
theorem dL_space_3 : decode cL_space 3 = .ok (.iload_n 1, 1) := by decide +kernel
theorem dL_space_4 : decode cL_space 4 = .ok (.invokevirtual 7, 3) := by decide +kernel
theorem dL_space_7 : decode cL_space 7 = .ok (.i2l, 1) := by decide +kernel
theorem dL_space_8 : decode cL_space 8 = .ok (.lastore, 1) := by decide +kernel
theorem dL_space_9 : decode cL_space 9 = .ok (.goto 6, 3) := by decide +kernel
theorem dL_space_12 : decode cL_space 12 = .ok (.astore_n 3, 1) := by decide +kernel
theorem dL_space_13 : decode cL_space 13 = .ok (.iconst 1, 1) := by decide +kernel
theorem dL_space_14 : decode cL_space 14 = .ok (.ireturn, 1) := by decide +kernel
theorem dL_space_15 : decode cL_space 15 = .ok (.iconst 0, 1) := by decide +kernel
theorem dL_space_16 : decode cL_space 16 = .ok (.ireturn, 1) := by decide +kernel
theorem dL_take_0 : decode cL_take 0 = .ok (.aload_n 2, 1) := by decide +kernel
theorem dL_take_1 : decode cL_take 1 = .ok (.iconst 0, 1) := by decide +kernel
theorem dL_take_2 : decode cL_take 2 = .ok (.aload_n 0, 1) := by decide +kernel
theorem dL_take_3 : decode cL_take 3 = .ok (.iload_n 1, 1) := by decide +kernel
theorem dL_take_4 : decode cL_take 4 = .ok (.invokevirtual 15, 3) := by decide +kernel
theorem dL_take_7 : decode cL_take 7 = .ok (.i2l, 1) := by decide +kernel
theorem dL_take_8 : decode cL_take 8 = .ok (.lastore, 1) := by decide +kernel
theorem dL_take_9 : decode cL_take 9 = .ok (.goto 6, 3) := by decide +kernel
theorem dL_take_12 : decode cL_take 12 = .ok (.astore_n 3, 1) := by decide +kernel
theorem dL_take_13 : decode cL_take 13 = .ok (.iconst 1, 1) := by decide +kernel
theorem dL_take_14 : decode cL_take 14 = .ok (.ireturn, 1) := by decide +kernel
theorem dL_take_15 : decode cL_take 15 = .ok (.iconst 0, 1) := by decide +kernel
theorem dL_take_16 : decode cL_take 16 = .ok (.ireturn, 1) := by decide +kernel
theorem dL_give_0 : decode cL_give 0 = .ok (.aload_n 2, 1) := by decide +kernel
theorem dL_give_1 : decode cL_give 1 = .ok (.iconst 0, 1) := by decide +kernel
theorem dL_give_2 : decode cL_give 2 = .ok (.aload_n 0, 1) := by decide +kernel
theorem dL_give_3 : decode cL_give 3 = .ok (.iload_n 1, 1) := by decide +kernel
theorem dL_give_4 : decode cL_give 4 = .ok (.invokevirtual 18, 3) := by decide +kernel
theorem dL_give_7 : decode cL_give 7 = .ok (.i2l, 1) := by decide +kernel
theorem dL_give_8 : decode cL_give 8 = .ok (.lastore, 1) := by decide +kernel
theorem dL_give_9 : decode cL_give 9 = .ok (.goto 6, 3) := by decide +kernel
theorem dL_give_12 : decode cL_give 12 = .ok (.astore_n 3, 1) := by decide +kernel
theorem dL_give_13 : decode cL_give 13 = .ok (.iconst 1, 1) := by decide +kernel
theorem dL_give_14 : decode cL_give 14 = .ok (.ireturn, 1) := by decide +kernel
theorem dL_give_15 : decode cL_give 15 = .ok (.iconst 0, 1) := by decide +kernel
theorem dL_give_16 : decode cL_give 16 = .ok (.ireturn, 1) := by decide +kernel
theorem dL_join_0 : decode cL_join 0 = .ok (.aload_n 2, 1) := by decide +kernel
theorem dL_join_1 : decode cL_join 1 = .ok (.iconst 0, 1) := by decide +kernel
theorem dL_join_2 : decode cL_join 2 = .ok (.aload_n 0, 1) := by decide +kernel
theorem dL_join_3 : decode cL_join 3 = .ok (.iload_n 1, 1) := by decide +kernel
theorem dL_join_4 : decode cL_join 4 = .ok (.invokevirtual 23, 3) := by decide +kernel
theorem dL_join_7 : decode cL_join 7 = .ok (.i2l, 1) := by decide +kernel
theorem dL_join_8 : decode cL_join 8 = .ok (.lastore, 1) := by decide +kernel
theorem dL_join_9 : decode cL_join 9 = .ok (.goto 6, 3) := by decide +kernel
theorem dL_join_12 : decode cL_join 12 = .ok (.astore_n 3, 1) := by decide +kernel
theorem dL_join_13 : decode cL_join 13 = .ok (.iconst 1, 1) := by decide +kernel
theorem dL_join_14 : decode cL_join 14 = .ok (.ireturn, 1) := by decide +kernel
theorem dL_join_15 : decode cL_join 15 = .ok (.iconst 0, 1) := by decide +kernel
theorem dL_join_16 : decode cL_join 16 = .ok (.ireturn, 1) := by decide +kernel
theorem dL_suffices_0 : decode cL_suffices 0 = .ok (.aload_n 2, 1) := by decide +kernel
theorem dL_suffices_1 : decode cL_suffices 1 = .ok (.iconst 0, 1) := by decide +kernel
theorem dL_suffices_2 : decode cL_suffices 2 = .ok (.aload_n 0, 1) := by decide +kernel
theorem dL_suffices_3 : decode cL_suffices 3 = .ok (.iload_n 1, 1) := by decide +kernel
theorem dL_suffices_4 : decode cL_suffices 4 = .ok (.invokevirtual 26, 3) := by decide +kernel
theorem dL_suffices_7 : decode cL_suffices 7 = .ok (.i2l, 1) := by decide +kernel
theorem dL_suffices_8 : decode cL_suffices 8 = .ok (.lastore, 1) := by decide +kernel
theorem dL_suffices_9 : decode cL_suffices 9 = .ok (.goto 6, 3) := by decide +kernel
theorem dL_suffices_12 : decode cL_suffices 12 = .ok (.astore_n 3, 1) := by decide +kernel
theorem dL_suffices_13 : decode cL_suffices 13 = .ok (.iconst 1, 1) := by decide +kernel
theorem dL_suffices_14 : decode cL_suffices 14 = .ok (.ireturn, 1) := by decide +kernel
theorem dL_suffices_15 : decode cL_suffices 15 = .ok (.iconst 0, 1) := by decide +kernel
theorem dL_suffices_16 : decode cL_suffices 16 = .ok (.ireturn, 1) := by decide +kernel
theorem dL_free_0 : decode cL_free 0 = .ok (.aload_n 3, 1) := by decide +kernel
theorem dL_free_1 : decode cL_free 1 = .ok (.iconst 0, 1) := by decide +kernel
theorem dL_free_2 : decode cL_free 2 = .ok (.aload_n 0, 1) := by decide +kernel
theorem dL_free_3 : decode cL_free 3 = .ok (.iload_n 1, 1) := by decide +kernel
theorem dL_free_4 : decode cL_free 4 = .ok (.iload_n 2, 1) := by decide +kernel
theorem dL_free_5 : decode cL_free 5 = .ok (.invokevirtual 29, 3) := by decide +kernel
theorem dL_free_8 : decode cL_free 8 = .ok (.i2l, 1) := by decide +kernel
theorem dL_free_9 : decode cL_free 9 = .ok (.lastore, 1) := by decide +kernel
theorem dL_free_10 : decode cL_free 10 = .ok (.goto 7, 3) := by decide +kernel
theorem dL_free_13 : decode cL_free 13 = .ok (.astore 4, 2) := by decide +kernel
theorem dL_free_15 : decode cL_free 15 = .ok (.iconst 1, 1) := by decide +kernel
theorem dL_free_16 : decode cL_free 16 = .ok (.ireturn, 1) := by decide +kernel
theorem dL_free_17 : decode cL_free 17 = .ok (.iconst 0, 1) := by decide +kernel
theorem dL_free_18 : decode cL_free 18 = .ok (.ireturn, 1) := by decide +kernel
theorem dL_count_0 : decode cL_count 0 = .ok (.aload_n 2, 1) := by decide +kernel
theorem dL_count_1 : decode cL_count 1 = .ok (.iconst 0, 1) := by decide +kernel
theorem dL_count_2 : decode cL_count 2 = .ok (.aload_n 0, 1) := by decide +kernel
theorem dL_count_3 : decode cL_count 3 = .ok (.iload_n 1, 1) := by decide +kernel
theorem dL_count_4 : decode cL_count 4 = .ok (.invokevirtual 33, 3) := by decide +kernel
theorem dL_count_7 : decode cL_count 7 = .ok (.i2l, 1) := by decide +kernel
theorem dL_count_8 : decode cL_count 8 = .ok (.lastore, 1) := by decide +kernel
theorem dL_count_9 : decode cL_count 9 = .ok (.goto 6, 3) := by decide +kernel
theorem dL_count_12 : decode cL_count 12 = .ok (.astore_n 3, 1) := by decide +kernel
theorem dL_count_13 : decode cL_count 13 = .ok (.iconst 1, 1) := by decide +kernel
theorem dL_count_14 : decode cL_count 14 = .ok (.ireturn, 1) := by decide +kernel
theorem dL_count_15 : decode cL_count 15 = .ok (.iconst 0, 1) := by decide +kernel
theorem dL_count_16 : decode cL_count 16 = .ok (.ireturn, 1) := by decide +kernel
theorem dL_law_0 : decode cL_law 0 = .ok (.new 8, 3) := by decide +kernel
theorem dL_law_3 : decode cL_law 3 = .ok (.dup, 1) := by decide +kernel
theorem dL_law_4 : decode cL_law 4 = .ok (.invokespecial 36, 3) := by decide +kernel
theorem dL_law_7 : decode cL_law 7 = .ok (.astore_n 1, 1) := by decide +kernel
theorem dL_law_8 : decode cL_law 8 = .ok (.new 37, 3) := by decide +kernel
theorem dL_law_11 : decode cL_law 11 = .ok (.dup, 1) := by decide +kernel
theorem dL_law_12 : decode cL_law 12 = .ok (.invokespecial 39, 3) := by decide +kernel
theorem dL_law_15 : decode cL_law 15 = .ok (.astore_n 2, 1) := by decide +kernel
theorem dL_law_16 : decode cL_law 16 = .ok (.iconst 1, 1) := by decide +kernel
theorem dL_law_17 : decode cL_law 17 = .ok (.newarray .long, 2) := by decide +kernel
theorem dL_law_19 : decode cL_law 19 = .ok (.astore_n 3, 1) := by decide +kernel
theorem dL_law_20 : decode cL_law 20 = .ok (.iconst 0, 1) := by decide +kernel
theorem dL_law_21 : decode cL_law 21 = .ok (.istore 4, 2) := by decide +kernel
theorem dL_law_23 : decode cL_law 23 = .ok (.iload 4, 2) := by decide +kernel
theorem dL_law_25 : decode cL_law 25 = .ok (.aload_n 0, 1) := by decide +kernel
theorem dL_law_26 : decode cL_law 26 = .ok (.arraylength, 1) := by decide +kernel
theorem dL_law_27 : decode cL_law 27 = .ok (.iconst 3, 1) := by decide +kernel
theorem dL_law_28 : decode cL_law 28 = .ok (.isub, 1) := by decide +kernel
theorem dL_law_29 : decode cL_law 29 = .ok (.if_icmp .gt 553, 3) := by decide +kernel
theorem dL_law_32 : decode cL_law 32 = .ok (.aload_n 0, 1) := by decide +kernel
theorem dL_law_33 : decode cL_law 33 = .ok (.iload 4, 2) := by decide +kernel
theorem dL_law_35 : decode cL_law 35 = .ok (.iaload, 1) := by decide +kernel
theorem dL_law_36 : decode cL_law 36 = .ok (.bipush 15, 2) := by decide +kernel
theorem dL_law_38 : decode cL_law 38 = .ok (.iand, 1) := by decide +kernel
theorem dL_law_39 : decode cL_law 39 = .ok (.tableswitch 537 0 10 #[57, 113, 169, 225, 281, 294, 350, 375, 400, 468, 524], 57) := by decide +kernel
theorem dL_law_96 : decode cL_law 96 = .ok (.aload_n 1, 1) := by decide +kernel
theorem dL_law_97 : decode cL_law 97 = .ok (.aload_n 0, 1) := by decide +kernel
theorem dL_law_98 : decode cL_law 98 = .ok (.iload 4, 2) := by decide +kernel
theorem dL_law_100 : decode cL_law 100 = .ok (.iconst 1, 1) := by decide +kernel
theorem dL_law_101 : decode cL_law 101 = .ok (.iadd, 1) := by decide +kernel
theorem dL_law_102 : decode cL_law 102 = .ok (.iaload, 1) := by decide +kernel
theorem dL_law_103 : decode cL_law 103 = .ok (.aload_n 3, 1) := by decide +kernel
theorem dL_law_104 : decode cL_law 104 = .ok (.invokestatic 40, 3) := by decide +kernel
theorem dL_law_107 : decode cL_law 107 = .ok (.istore 5, 2) := by decide +kernel
theorem dL_law_109 : decode cL_law 109 = .ok (.aload_n 2, 1) := by decide +kernel
theorem dL_law_110 : decode cL_law 110 = .ok (.aload_n 0, 1) := by decide +kernel
theorem dL_law_111 : decode cL_law 111 = .ok (.iload 4, 2) := by decide +kernel
theorem dL_law_113 : decode cL_law 113 = .ok (.iconst 1, 1) := by decide +kernel
theorem dL_law_114 : decode cL_law 114 = .ok (.iadd, 1) := by decide +kernel
theorem dL_law_115 : decode cL_law 115 = .ok (.iaload, 1) := by decide +kernel
theorem dL_law_116 : decode cL_law 116 = .ok (.invokevirtual 45, 3) := by decide +kernel
theorem dL_law_119 : decode cL_law 119 = .ok (.istore 6, 2) := by decide +kernel
theorem dL_law_121 : decode cL_law 121 = .ok (.aload_n 2, 1) := by decide +kernel
theorem dL_law_122 : decode cL_law 122 = .ok (.invokevirtual 46, 3) := by decide +kernel
theorem dL_law_125 : decode cL_law 125 = .ok (.iload 5, 2) := by decide +kernel
theorem dL_law_127 : decode cL_law 127 = .ok (.if_icmp .eq 5, 3) := by decide +kernel
theorem dL_law_130 : decode cL_law 130 = .ok (.iconst 0, 1) := by decide +kernel
theorem dL_law_131 : decode cL_law 131 = .ok (.ireturn, 1) := by decide +kernel
theorem dL_law_132 : decode cL_law 132 = .ok (.iload 5, 2) := by decide +kernel
theorem dL_law_134 : decode cL_law 134 = .ok (.ifCond .ne 15, 3) := by decide +kernel
theorem dL_law_137 : decode cL_law 137 = .ok (.aload_n 3, 1) := by decide +kernel
theorem dL_law_138 : decode cL_law 138 = .ok (.iconst 0, 1) := by decide +kernel
theorem dL_law_139 : decode cL_law 139 = .ok (.laload, 1) := by decide +kernel
theorem dL_law_140 : decode cL_law 140 = .ok (.iload 6, 2) := by decide +kernel
theorem dL_law_142 : decode cL_law 142 = .ok (.i2l, 1) := by decide +kernel
theorem dL_law_143 : decode cL_law 143 = .ok (.lcmp, 1) := by decide +kernel
theorem dL_law_144 : decode cL_law 144 = .ok (.ifCond .eq 5, 3) := by decide +kernel
theorem dL_law_147 : decode cL_law 147 = .ok (.iconst 0, 1) := by decide +kernel
theorem dL_law_148 : decode cL_law 148 = .ok (.ireturn, 1) := by decide +kernel
theorem dL_law_149 : decode cL_law 149 = .ok (.goto 427, 3) := by decide +kernel
theorem dL_law_152 : decode cL_law 152 = .ok (.aload_n 1, 1) := by decide +kernel
theorem dL_law_153 : decode cL_law 153 = .ok (.aload_n 0, 1) := by decide +kernel
theorem dL_law_154 : decode cL_law 154 = .ok (.iload 4, 2) := by decide +kernel
theorem dL_law_156 : decode cL_law 156 = .ok (.iconst 1, 1) := by decide +kernel
theorem dL_law_157 : decode cL_law 157 = .ok (.iadd, 1) := by decide +kernel
theorem dL_law_158 : decode cL_law 158 = .ok (.iaload, 1) := by decide +kernel
theorem dL_law_159 : decode cL_law 159 = .ok (.aload_n 3, 1) := by decide +kernel
theorem dL_law_160 : decode cL_law 160 = .ok (.invokestatic 50, 3) := by decide +kernel
theorem dL_law_163 : decode cL_law 163 = .ok (.istore 5, 2) := by decide +kernel
theorem dL_law_165 : decode cL_law 165 = .ok (.aload_n 2, 1) := by decide +kernel
theorem dL_law_166 : decode cL_law 166 = .ok (.aload_n 0, 1) := by decide +kernel
theorem dL_law_167 : decode cL_law 167 = .ok (.iload 4, 2) := by decide +kernel
theorem dL_law_169 : decode cL_law 169 = .ok (.iconst 1, 1) := by decide +kernel
theorem dL_law_170 : decode cL_law 170 = .ok (.iadd, 1) := by decide +kernel
theorem dL_law_171 : decode cL_law 171 = .ok (.iaload, 1) := by decide +kernel
theorem dL_law_172 : decode cL_law 172 = .ok (.invokevirtual 52, 3) := by decide +kernel
theorem dL_law_175 : decode cL_law 175 = .ok (.istore 6, 2) := by decide +kernel
theorem dL_law_177 : decode cL_law 177 = .ok (.aload_n 2, 1) := by decide +kernel
theorem dL_law_178 : decode cL_law 178 = .ok (.invokevirtual 46, 3) := by decide +kernel
theorem dL_law_181 : decode cL_law 181 = .ok (.iload 5, 2) := by decide +kernel
theorem dL_law_183 : decode cL_law 183 = .ok (.if_icmp .eq 5, 3) := by decide +kernel
theorem dL_law_186 : decode cL_law 186 = .ok (.iconst 0, 1) := by decide +kernel
theorem dL_law_187 : decode cL_law 187 = .ok (.ireturn, 1) := by decide +kernel
theorem dL_law_188 : decode cL_law 188 = .ok (.iload 5, 2) := by decide +kernel
theorem dL_law_190 : decode cL_law 190 = .ok (.ifCond .ne 15, 3) := by decide +kernel
theorem dL_law_193 : decode cL_law 193 = .ok (.aload_n 3, 1) := by decide +kernel
theorem dL_law_194 : decode cL_law 194 = .ok (.iconst 0, 1) := by decide +kernel
theorem dL_law_195 : decode cL_law 195 = .ok (.laload, 1) := by decide +kernel
theorem dL_law_196 : decode cL_law 196 = .ok (.iload 6, 2) := by decide +kernel
theorem dL_law_198 : decode cL_law 198 = .ok (.i2l, 1) := by decide +kernel
theorem dL_law_199 : decode cL_law 199 = .ok (.lcmp, 1) := by decide +kernel
theorem dL_law_200 : decode cL_law 200 = .ok (.ifCond .eq 5, 3) := by decide +kernel
theorem dL_law_203 : decode cL_law 203 = .ok (.iconst 0, 1) := by decide +kernel
theorem dL_law_204 : decode cL_law 204 = .ok (.ireturn, 1) := by decide +kernel
theorem dL_law_205 : decode cL_law 205 = .ok (.goto 371, 3) := by decide +kernel
theorem dL_law_208 : decode cL_law 208 = .ok (.aload_n 1, 1) := by decide +kernel
theorem dL_law_209 : decode cL_law 209 = .ok (.aload_n 0, 1) := by decide +kernel
theorem dL_law_210 : decode cL_law 210 = .ok (.iload 4, 2) := by decide +kernel
theorem dL_law_212 : decode cL_law 212 = .ok (.iconst 1, 1) := by decide +kernel
theorem dL_law_213 : decode cL_law 213 = .ok (.iadd, 1) := by decide +kernel
theorem dL_law_214 : decode cL_law 214 = .ok (.iaload, 1) := by decide +kernel
theorem dL_law_215 : decode cL_law 215 = .ok (.aload_n 3, 1) := by decide +kernel
theorem dL_law_216 : decode cL_law 216 = .ok (.invokestatic 53, 3) := by decide +kernel
theorem dL_law_219 : decode cL_law 219 = .ok (.istore 5, 2) := by decide +kernel
theorem dL_law_221 : decode cL_law 221 = .ok (.aload_n 2, 1) := by decide +kernel
theorem dL_law_222 : decode cL_law 222 = .ok (.aload_n 0, 1) := by decide +kernel
theorem dL_law_223 : decode cL_law 223 = .ok (.iload 4, 2) := by decide +kernel
theorem dL_law_225 : decode cL_law 225 = .ok (.iconst 1, 1) := by decide +kernel
theorem dL_law_226 : decode cL_law 226 = .ok (.iadd, 1) := by decide +kernel
theorem dL_law_227 : decode cL_law 227 = .ok (.iaload, 1) := by decide +kernel
theorem dL_law_228 : decode cL_law 228 = .ok (.invokevirtual 55, 3) := by decide +kernel
theorem dL_law_231 : decode cL_law 231 = .ok (.istore 6, 2) := by decide +kernel
theorem dL_law_233 : decode cL_law 233 = .ok (.aload_n 2, 1) := by decide +kernel
theorem dL_law_234 : decode cL_law 234 = .ok (.invokevirtual 46, 3) := by decide +kernel
theorem dL_law_237 : decode cL_law 237 = .ok (.iload 5, 2) := by decide +kernel
theorem dL_law_239 : decode cL_law 239 = .ok (.if_icmp .eq 5, 3) := by decide +kernel
theorem dL_law_242 : decode cL_law 242 = .ok (.iconst 0, 1) := by decide +kernel
theorem dL_law_243 : decode cL_law 243 = .ok (.ireturn, 1) := by decide +kernel
theorem dL_law_244 : decode cL_law 244 = .ok (.iload 5, 2) := by decide +kernel
theorem dL_law_246 : decode cL_law 246 = .ok (.ifCond .ne 15, 3) := by decide +kernel
theorem dL_law_249 : decode cL_law 249 = .ok (.aload_n 3, 1) := by decide +kernel
theorem dL_law_250 : decode cL_law 250 = .ok (.iconst 0, 1) := by decide +kernel
theorem dL_law_251 : decode cL_law 251 = .ok (.laload, 1) := by decide +kernel
theorem dL_law_252 : decode cL_law 252 = .ok (.iload 6, 2) := by decide +kernel
theorem dL_law_254 : decode cL_law 254 = .ok (.i2l, 1) := by decide +kernel
theorem dL_law_255 : decode cL_law 255 = .ok (.lcmp, 1) := by decide +kernel
theorem dL_law_256 : decode cL_law 256 = .ok (.ifCond .eq 5, 3) := by decide +kernel
theorem dL_law_259 : decode cL_law 259 = .ok (.iconst 0, 1) := by decide +kernel
theorem dL_law_260 : decode cL_law 260 = .ok (.ireturn, 1) := by decide +kernel
theorem dL_law_261 : decode cL_law 261 = .ok (.goto 315, 3) := by decide +kernel
theorem dL_law_264 : decode cL_law 264 = .ok (.aload_n 1, 1) := by decide +kernel
theorem dL_law_265 : decode cL_law 265 = .ok (.aload_n 0, 1) := by decide +kernel
theorem dL_law_266 : decode cL_law 266 = .ok (.iload 4, 2) := by decide +kernel
theorem dL_law_268 : decode cL_law 268 = .ok (.iconst 1, 1) := by decide +kernel
theorem dL_law_269 : decode cL_law 269 = .ok (.iadd, 1) := by decide +kernel
theorem dL_law_270 : decode cL_law 270 = .ok (.iaload, 1) := by decide +kernel
theorem dL_law_271 : decode cL_law 271 = .ok (.aload_n 3, 1) := by decide +kernel
theorem dL_law_272 : decode cL_law 272 = .ok (.invokestatic 56, 3) := by decide +kernel
theorem dL_law_275 : decode cL_law 275 = .ok (.istore 5, 2) := by decide +kernel
theorem dL_law_277 : decode cL_law 277 = .ok (.aload_n 2, 1) := by decide +kernel
theorem dL_law_278 : decode cL_law 278 = .ok (.aload_n 0, 1) := by decide +kernel
theorem dL_law_279 : decode cL_law 279 = .ok (.iload 4, 2) := by decide +kernel
theorem dL_law_281 : decode cL_law 281 = .ok (.iconst 1, 1) := by decide +kernel
theorem dL_law_282 : decode cL_law 282 = .ok (.iadd, 1) := by decide +kernel
theorem dL_law_283 : decode cL_law 283 = .ok (.iaload, 1) := by decide +kernel
theorem dL_law_284 : decode cL_law 284 = .ok (.invokevirtual 58, 3) := by decide +kernel
theorem dL_law_287 : decode cL_law 287 = .ok (.istore 6, 2) := by decide +kernel
theorem dL_law_289 : decode cL_law 289 = .ok (.aload_n 2, 1) := by decide +kernel
theorem dL_law_290 : decode cL_law 290 = .ok (.invokevirtual 46, 3) := by decide +kernel
theorem dL_law_293 : decode cL_law 293 = .ok (.iload 5, 2) := by decide +kernel
theorem dL_law_295 : decode cL_law 295 = .ok (.if_icmp .eq 5, 3) := by decide +kernel
theorem dL_law_298 : decode cL_law 298 = .ok (.iconst 0, 1) := by decide +kernel
theorem dL_law_299 : decode cL_law 299 = .ok (.ireturn, 1) := by decide +kernel
theorem dL_law_300 : decode cL_law 300 = .ok (.iload 5, 2) := by decide +kernel
theorem dL_law_302 : decode cL_law 302 = .ok (.ifCond .ne 15, 3) := by decide +kernel
theorem dL_law_305 : decode cL_law 305 = .ok (.aload_n 3, 1) := by decide +kernel
theorem dL_law_306 : decode cL_law 306 = .ok (.iconst 0, 1) := by decide +kernel
theorem dL_law_307 : decode cL_law 307 = .ok (.laload, 1) := by decide +kernel
theorem dL_law_308 : decode cL_law 308 = .ok (.iload 6, 2) := by decide +kernel
theorem dL_law_310 : decode cL_law 310 = .ok (.i2l, 1) := by decide +kernel
theorem dL_law_311 : decode cL_law 311 = .ok (.lcmp, 1) := by decide +kernel
theorem dL_law_312 : decode cL_law 312 = .ok (.ifCond .eq 5, 3) := by decide +kernel
theorem dL_law_315 : decode cL_law 315 = .ok (.iconst 0, 1) := by decide +kernel
theorem dL_law_316 : decode cL_law 316 = .ok (.ireturn, 1) := by decide +kernel
theorem dL_law_317 : decode cL_law 317 = .ok (.goto 259, 3) := by decide +kernel
theorem dL_law_320 : decode cL_law 320 = .ok (.aload_n 1, 1) := by decide +kernel
theorem dL_law_321 : decode cL_law 321 = .ok (.invokevirtual 59, 3) := by decide +kernel
theorem dL_law_324 : decode cL_law 324 = .ok (.aload_n 2, 1) := by decide +kernel
theorem dL_law_325 : decode cL_law 325 = .ok (.invokevirtual 62, 3) := by decide +kernel
theorem dL_law_328 : decode cL_law 328 = .ok (.if_icmp .eq 248, 3) := by decide +kernel
theorem dL_law_331 : decode cL_law 331 = .ok (.iconst 0, 1) := by decide +kernel
theorem dL_law_332 : decode cL_law 332 = .ok (.ireturn, 1) := by decide +kernel
theorem dL_law_333 : decode cL_law 333 = .ok (.aload_n 1, 1) := by decide +kernel
theorem dL_law_334 : decode cL_law 334 = .ok (.aload_n 0, 1) := by decide +kernel
theorem dL_law_335 : decode cL_law 335 = .ok (.iload 4, 2) := by decide +kernel
theorem dL_law_337 : decode cL_law 337 = .ok (.iconst 1, 1) := by decide +kernel
theorem dL_law_338 : decode cL_law 338 = .ok (.iadd, 1) := by decide +kernel
theorem dL_law_339 : decode cL_law 339 = .ok (.iaload, 1) := by decide +kernel
theorem dL_law_340 : decode cL_law 340 = .ok (.aload_n 3, 1) := by decide +kernel
theorem dL_law_341 : decode cL_law 341 = .ok (.invokestatic 63, 3) := by decide +kernel
theorem dL_law_344 : decode cL_law 344 = .ok (.istore 5, 2) := by decide +kernel
theorem dL_law_346 : decode cL_law 346 = .ok (.aload_n 2, 1) := by decide +kernel
theorem dL_law_347 : decode cL_law 347 = .ok (.aload_n 0, 1) := by decide +kernel
theorem dL_law_348 : decode cL_law 348 = .ok (.iload 4, 2) := by decide +kernel
theorem dL_law_350 : decode cL_law 350 = .ok (.iconst 1, 1) := by decide +kernel
theorem dL_law_351 : decode cL_law 351 = .ok (.iadd, 1) := by decide +kernel
theorem dL_law_352 : decode cL_law 352 = .ok (.iaload, 1) := by decide +kernel
theorem dL_law_353 : decode cL_law 353 = .ok (.invokevirtual 65, 3) := by decide +kernel
theorem dL_law_356 : decode cL_law 356 = .ok (.istore 6, 2) := by decide +kernel
theorem dL_law_358 : decode cL_law 358 = .ok (.aload_n 2, 1) := by decide +kernel
theorem dL_law_359 : decode cL_law 359 = .ok (.invokevirtual 46, 3) := by decide +kernel
theorem dL_law_362 : decode cL_law 362 = .ok (.iload 5, 2) := by decide +kernel
theorem dL_law_364 : decode cL_law 364 = .ok (.if_icmp .eq 5, 3) := by decide +kernel
theorem dL_law_367 : decode cL_law 367 = .ok (.iconst 0, 1) := by decide +kernel
theorem dL_law_368 : decode cL_law 368 = .ok (.ireturn, 1) := by decide +kernel
theorem dL_law_369 : decode cL_law 369 = .ok (.iload 5, 2) := by decide +kernel
theorem dL_law_371 : decode cL_law 371 = .ok (.ifCond .ne 15, 3) := by decide +kernel
theorem dL_law_374 : decode cL_law 374 = .ok (.aload_n 3, 1) := by decide +kernel
theorem dL_law_375 : decode cL_law 375 = .ok (.iconst 0, 1) := by decide +kernel
theorem dL_law_376 : decode cL_law 376 = .ok (.laload, 1) := by decide +kernel
theorem dL_law_377 : decode cL_law 377 = .ok (.iload 6, 2) := by decide +kernel
theorem dL_law_379 : decode cL_law 379 = .ok (.i2l, 1) := by decide +kernel
theorem dL_law_380 : decode cL_law 380 = .ok (.lcmp, 1) := by decide +kernel
theorem dL_law_381 : decode cL_law 381 = .ok (.ifCond .eq 5, 3) := by decide +kernel
theorem dL_law_384 : decode cL_law 384 = .ok (.iconst 0, 1) := by decide +kernel
theorem dL_law_385 : decode cL_law 385 = .ok (.ireturn, 1) := by decide +kernel
theorem dL_law_386 : decode cL_law 386 = .ok (.goto 190, 3) := by decide +kernel
theorem dL_law_389 : decode cL_law 389 = .ok (.aload_n 1, 1) := by decide +kernel
theorem dL_law_390 : decode cL_law 390 = .ok (.aload_n 0, 1) := by decide +kernel
theorem dL_law_391 : decode cL_law 391 = .ok (.iload 4, 2) := by decide +kernel
theorem dL_law_393 : decode cL_law 393 = .ok (.iconst 1, 1) := by decide +kernel
theorem dL_law_394 : decode cL_law 394 = .ok (.iadd, 1) := by decide +kernel
theorem dL_law_395 : decode cL_law 395 = .ok (.iaload, 1) := by decide +kernel
theorem dL_law_396 : decode cL_law 396 = .ok (.invokevirtual 66, 3) := by decide +kernel
theorem dL_law_399 : decode cL_law 399 = .ok (.aload_n 2, 1) := by decide +kernel
theorem dL_law_400 : decode cL_law 400 = .ok (.aload_n 0, 1) := by decide +kernel
theorem dL_law_401 : decode cL_law 401 = .ok (.iload 4, 2) := by decide +kernel
theorem dL_law_403 : decode cL_law 403 = .ok (.iconst 1, 1) := by decide +kernel
theorem dL_law_404 : decode cL_law 404 = .ok (.iadd, 1) := by decide +kernel
theorem dL_law_405 : decode cL_law 405 = .ok (.iaload, 1) := by decide +kernel
theorem dL_law_406 : decode cL_law 406 = .ok (.invokevirtual 69, 3) := by decide +kernel
theorem dL_law_409 : decode cL_law 409 = .ok (.if_icmp .eq 167, 3) := by decide +kernel
theorem dL_law_412 : decode cL_law 412 = .ok (.iconst 0, 1) := by decide +kernel
theorem dL_law_413 : decode cL_law 413 = .ok (.ireturn, 1) := by decide +kernel
theorem dL_law_414 : decode cL_law 414 = .ok (.aload_n 1, 1) := by decide +kernel
theorem dL_law_415 : decode cL_law 415 = .ok (.aload_n 0, 1) := by decide +kernel
theorem dL_law_416 : decode cL_law 416 = .ok (.iload 4, 2) := by decide +kernel
theorem dL_law_418 : decode cL_law 418 = .ok (.iconst 1, 1) := by decide +kernel
theorem dL_law_419 : decode cL_law 419 = .ok (.iadd, 1) := by decide +kernel
theorem dL_law_420 : decode cL_law 420 = .ok (.iaload, 1) := by decide +kernel
theorem dL_law_421 : decode cL_law 421 = .ok (.invokevirtual 70, 3) := by decide +kernel
theorem dL_law_424 : decode cL_law 424 = .ok (.aload_n 2, 1) := by decide +kernel
theorem dL_law_425 : decode cL_law 425 = .ok (.aload_n 0, 1) := by decide +kernel
theorem dL_law_426 : decode cL_law 426 = .ok (.iload 4, 2) := by decide +kernel
theorem dL_law_428 : decode cL_law 428 = .ok (.iconst 1, 1) := by decide +kernel
theorem dL_law_429 : decode cL_law 429 = .ok (.iadd, 1) := by decide +kernel
theorem dL_law_430 : decode cL_law 430 = .ok (.iaload, 1) := by decide +kernel
theorem dL_law_431 : decode cL_law 431 = .ok (.invokevirtual 73, 3) := by decide +kernel
theorem dL_law_434 : decode cL_law 434 = .ok (.if_icmp .eq 142, 3) := by decide +kernel
theorem dL_law_437 : decode cL_law 437 = .ok (.iconst 0, 1) := by decide +kernel
theorem dL_law_438 : decode cL_law 438 = .ok (.ireturn, 1) := by decide +kernel
theorem dL_law_439 : decode cL_law 439 = .ok (.aload_n 1, 1) := by decide +kernel
theorem dL_law_440 : decode cL_law 440 = .ok (.aload_n 0, 1) := by decide +kernel
theorem dL_law_441 : decode cL_law 441 = .ok (.iload 4, 2) := by decide +kernel
theorem dL_law_443 : decode cL_law 443 = .ok (.iconst 1, 1) := by decide +kernel
theorem dL_law_444 : decode cL_law 444 = .ok (.iadd, 1) := by decide +kernel
theorem dL_law_445 : decode cL_law 445 = .ok (.iaload, 1) := by decide +kernel
theorem dL_law_446 : decode cL_law 446 = .ok (.aload_n 0, 1) := by decide +kernel
theorem dL_law_447 : decode cL_law 447 = .ok (.iload 4, 2) := by decide +kernel
theorem dL_law_449 : decode cL_law 449 = .ok (.iconst 2, 1) := by decide +kernel
theorem dL_law_450 : decode cL_law 450 = .ok (.iadd, 1) := by decide +kernel
theorem dL_law_451 : decode cL_law 451 = .ok (.iaload, 1) := by decide +kernel
theorem dL_law_452 : decode cL_law 452 = .ok (.aload_n 3, 1) := by decide +kernel
theorem dL_law_453 : decode cL_law 453 = .ok (.invokestatic 74, 3) := by decide +kernel
theorem dL_law_456 : decode cL_law 456 = .ok (.istore 5, 2) := by decide +kernel
theorem dL_law_458 : decode cL_law 458 = .ok (.aload_n 2, 1) := by decide +kernel
theorem dL_law_459 : decode cL_law 459 = .ok (.aload_n 0, 1) := by decide +kernel
theorem dL_law_460 : decode cL_law 460 = .ok (.iload 4, 2) := by decide +kernel
theorem dL_law_462 : decode cL_law 462 = .ok (.iconst 1, 1) := by decide +kernel
theorem dL_law_463 : decode cL_law 463 = .ok (.iadd, 1) := by decide +kernel
theorem dL_law_464 : decode cL_law 464 = .ok (.iaload, 1) := by decide +kernel
theorem dL_law_465 : decode cL_law 465 = .ok (.aload_n 0, 1) := by decide +kernel
theorem dL_law_466 : decode cL_law 466 = .ok (.iload 4, 2) := by decide +kernel
theorem dL_law_468 : decode cL_law 468 = .ok (.iconst 2, 1) := by decide +kernel
theorem dL_law_469 : decode cL_law 469 = .ok (.iadd, 1) := by decide +kernel
theorem dL_law_470 : decode cL_law 470 = .ok (.iaload, 1) := by decide +kernel
theorem dL_law_471 : decode cL_law 471 = .ok (.invokevirtual 77, 3) := by decide +kernel
theorem dL_law_474 : decode cL_law 474 = .ok (.istore 6, 2) := by decide +kernel
theorem dL_law_476 : decode cL_law 476 = .ok (.aload_n 2, 1) := by decide +kernel
theorem dL_law_477 : decode cL_law 477 = .ok (.invokevirtual 46, 3) := by decide +kernel
theorem dL_law_480 : decode cL_law 480 = .ok (.iload 5, 2) := by decide +kernel
theorem dL_law_482 : decode cL_law 482 = .ok (.if_icmp .eq 5, 3) := by decide +kernel
theorem dL_law_485 : decode cL_law 485 = .ok (.iconst 0, 1) := by decide +kernel
theorem dL_law_486 : decode cL_law 486 = .ok (.ireturn, 1) := by decide +kernel
theorem dL_law_487 : decode cL_law 487 = .ok (.iload 5, 2) := by decide +kernel
theorem dL_law_489 : decode cL_law 489 = .ok (.ifCond .ne 15, 3) := by decide +kernel
theorem dL_law_492 : decode cL_law 492 = .ok (.aload_n 3, 1) := by decide +kernel
theorem dL_law_493 : decode cL_law 493 = .ok (.iconst 0, 1) := by decide +kernel
theorem dL_law_494 : decode cL_law 494 = .ok (.laload, 1) := by decide +kernel
theorem dL_law_495 : decode cL_law 495 = .ok (.iload 6, 2) := by decide +kernel
theorem dL_law_497 : decode cL_law 497 = .ok (.i2l, 1) := by decide +kernel
theorem dL_law_498 : decode cL_law 498 = .ok (.lcmp, 1) := by decide +kernel
theorem dL_law_499 : decode cL_law 499 = .ok (.ifCond .eq 5, 3) := by decide +kernel
theorem dL_law_502 : decode cL_law 502 = .ok (.iconst 0, 1) := by decide +kernel
theorem dL_law_503 : decode cL_law 503 = .ok (.ireturn, 1) := by decide +kernel
theorem dL_law_504 : decode cL_law 504 = .ok (.goto 72, 3) := by decide +kernel
theorem dL_law_507 : decode cL_law 507 = .ok (.aload_n 1, 1) := by decide +kernel
theorem dL_law_508 : decode cL_law 508 = .ok (.aload_n 0, 1) := by decide +kernel
theorem dL_law_509 : decode cL_law 509 = .ok (.iload 4, 2) := by decide +kernel
theorem dL_law_511 : decode cL_law 511 = .ok (.iconst 1, 1) := by decide +kernel
theorem dL_law_512 : decode cL_law 512 = .ok (.iadd, 1) := by decide +kernel
theorem dL_law_513 : decode cL_law 513 = .ok (.iaload, 1) := by decide +kernel
theorem dL_law_514 : decode cL_law 514 = .ok (.aload_n 3, 1) := by decide +kernel
theorem dL_law_515 : decode cL_law 515 = .ok (.invokestatic 78, 3) := by decide +kernel
theorem dL_law_518 : decode cL_law 518 = .ok (.istore 5, 2) := by decide +kernel
theorem dL_law_520 : decode cL_law 520 = .ok (.aload_n 2, 1) := by decide +kernel
theorem dL_law_521 : decode cL_law 521 = .ok (.aload_n 0, 1) := by decide +kernel
theorem dL_law_522 : decode cL_law 522 = .ok (.iload 4, 2) := by decide +kernel
theorem dL_law_524 : decode cL_law 524 = .ok (.iconst 1, 1) := by decide +kernel
theorem dL_law_525 : decode cL_law 525 = .ok (.iadd, 1) := by decide +kernel
theorem dL_law_526 : decode cL_law 526 = .ok (.iaload, 1) := by decide +kernel
theorem dL_law_527 : decode cL_law 527 = .ok (.invokevirtual 80, 3) := by decide +kernel
theorem dL_law_530 : decode cL_law 530 = .ok (.istore 6, 2) := by decide +kernel
theorem dL_law_532 : decode cL_law 532 = .ok (.aload_n 2, 1) := by decide +kernel
theorem dL_law_533 : decode cL_law 533 = .ok (.invokevirtual 46, 3) := by decide +kernel
theorem dL_law_536 : decode cL_law 536 = .ok (.iload 5, 2) := by decide +kernel
theorem dL_law_538 : decode cL_law 538 = .ok (.if_icmp .eq 5, 3) := by decide +kernel
theorem dL_law_541 : decode cL_law 541 = .ok (.iconst 0, 1) := by decide +kernel
theorem dL_law_542 : decode cL_law 542 = .ok (.ireturn, 1) := by decide +kernel
theorem dL_law_543 : decode cL_law 543 = .ok (.iload 5, 2) := by decide +kernel
theorem dL_law_545 : decode cL_law 545 = .ok (.ifCond .ne 15, 3) := by decide +kernel
theorem dL_law_548 : decode cL_law 548 = .ok (.aload_n 3, 1) := by decide +kernel
theorem dL_law_549 : decode cL_law 549 = .ok (.iconst 0, 1) := by decide +kernel
theorem dL_law_550 : decode cL_law 550 = .ok (.laload, 1) := by decide +kernel
theorem dL_law_551 : decode cL_law 551 = .ok (.iload 6, 2) := by decide +kernel
theorem dL_law_553 : decode cL_law 553 = .ok (.i2l, 1) := by decide +kernel
theorem dL_law_554 : decode cL_law 554 = .ok (.lcmp, 1) := by decide +kernel
theorem dL_law_555 : decode cL_law 555 = .ok (.ifCond .eq 5, 3) := by decide +kernel
theorem dL_law_558 : decode cL_law 558 = .ok (.iconst 0, 1) := by decide +kernel
theorem dL_law_559 : decode cL_law 559 = .ok (.ireturn, 1) := by decide +kernel
theorem dL_law_560 : decode cL_law 560 = .ok (.goto 16, 3) := by decide +kernel
theorem dL_law_563 : decode cL_law 563 = .ok (.aload_n 1, 1) := by decide +kernel
theorem dL_law_564 : decode cL_law 564 = .ok (.invokevirtual 81, 3) := by decide +kernel
theorem dL_law_567 : decode cL_law 567 = .ok (.aload_n 2, 1) := by decide +kernel
theorem dL_law_568 : decode cL_law 568 = .ok (.invokevirtual 84, 3) := by decide +kernel
theorem dL_law_571 : decode cL_law 571 = .ok (.if_icmp .eq 5, 3) := by decide +kernel
theorem dL_law_574 : decode cL_law 574 = .ok (.iconst 0, 1) := by decide +kernel
theorem dL_law_575 : decode cL_law 575 = .ok (.ireturn, 1) := by decide +kernel
theorem dL_law_576 : decode cL_law 576 = .ok (.iinc 4 3, 3) := by decide +kernel
theorem dL_law_579 : decode cL_law 579 = .ok (.goto (-556), 3) := by decide +kernel
theorem dL_law_582 : decode cL_law 582 = .ok (.iconst 1, 1) := by decide +kernel
theorem dL_law_583 : decode cL_law 583 = .ok (.ireturn, 1) := by decide +kernel
end
section
/-! THE POOL: addresses, kinds, int fields, references, longs, lengths of arrays, int arrays, arrays of references.
Kinds: 0 Piece, 1 Row, 2 Shelves, 3 Tree, 4 ChunkShelf, 5 ChunkShelfModel, 6 int array, 7 array of Row.
I: 0 Piece.at 1 Piece.cells 2 Piece.isFree 3 Piece.awaited 4 Row.cells 5 ChunkShelf.cellCount 6 ChunkShelf.misses 7 Model.thrown 8 Model.cells 9 Model.now 10 Model.failures.
R: 0 Piece.behind 1 Piece.older 2 Row.latest 3 Row.less 4 Row.more 5 Shelves.small 6 Shelves.great 7 Tree.root 8 ChunkShelf.shelves 9 ChunkShelf.lowest 10 Model.sizes 11 Model.times.
J: 0 Piece.since 1 Shelves.now. -/
def qS : Type := List Nat × (Nat → Nat) × (Nat → Nat → Int32) × (Nat → Nat → Option Nat) × (Nat → Nat → Int64) × (Nat → Nat) × (Nat → Nat → Int32) × (Nat → Nat → Option Nat)
def qS.L (S : qS) : List Nat := S.1
def qS.K (S : qS) : Nat → Nat := S.2.1
def qS.I (S : qS) : Nat → Nat → Int32 := S.2.2.1
def qS.R (S : qS) : Nat → Nat → Option Nat := S.2.2.2.1
def qS.J (S : qS) : Nat → Nat → Int64 := S.2.2.2.2.1
def qS.N (S : qS) : Nat → Nat := S.2.2.2.2.2.1
def qS.A (S : qS) : Nat → Nat → Int32 := S.2.2.2.2.2.2.1
def qS.B (S : qS) : Nat → Nat → Option Nat := S.2.2.2.2.2.2.2
def qS.sI (S : qS) (k a : Nat) (v : Int32) : qS := (S.L, S.K, va_up S.I k (va_up (S.I k) a v), S.R, S.J, S.N, S.A, S.B)
def qS.sR (S : qS) (k a : Nat) (v : Option Nat) : qS := (S.L, S.K, S.I, va_up S.R k (va_up (S.R k) a v), S.J, S.N, S.A, S.B)
def qS.sJ (S : qS) (k a : Nat) (v : Int64) : qS := (S.L, S.K, S.I, S.R, va_up S.J k (va_up (S.J k) a v), S.N, S.A, S.B)
def qS.sA (S : qS) (a i : Nat) (v : Int32) : qS := (S.L, S.K, S.I, S.R, S.J, S.N, va_up S.A a (upd (S.A a) i v), S.B)
def qS.sB (S : qS) (a i : Nat) (v : Option Nat) : qS := (S.L, S.K, S.I, S.R, S.J, S.N, S.A, va_up S.B a (va_up (S.B a) i v))
/-- a new object of kind k at q -/
def qS.nO (S : qS) (q k : Nat) : qS := (S.L ++ [q], va_up S.K q k, fun j => va_up (S.I j) q 0, fun j => va_up (S.R j) q none, fun j => va_up (S.J j) q 0, S.N, S.A, S.B)
/-- a new int array of n places at q -/
def qS.nA (S : qS) (q n : Nat) : qS := (S.L ++ [q], va_up S.K q 6, S.I, S.R, S.J, va_up S.N q n, va_up S.A q (fun _ => 0), S.B)
/-- a new array of n references at q -/
def qS.nB (S : qS) (q n : Nat) : qS := (S.L ++ [q], va_up S.K q 7, S.I, S.R, S.J, va_up S.N q n, S.A, va_up S.B q (fun _ => none))
def q0S : qS := ([], fun _ => 0, fun _ _ => 0, fun _ _ => none, fun _ _ => 0, fun _ => 0, fun _ _ => 0, fun _ _ => none)
/-- what lies at an address -/
def qF (cI cR : ClassId) (S : qS) (a : Nat) : va_E := if S.K a = 0 then .inr (0, [.int (S.I 0 a), .int (S.I 1 a), .int (S.I 2 a), .long (S.J 0 a), va_rf (S.R 0 a), va_rf (S.R 1 a), .int (S.I 3 a)])
  else if S.K a = 1 then .inr (1, [.int (S.I 4 a), va_rf (S.R 2 a), va_rf (S.R 3 a), va_rf (S.R 4 a)])
  else if S.K a = 2 then .inr (2, [va_rf (S.R 5 a), va_rf (S.R 6 a), .long (S.J 1 a)])
  else if S.K a = 3 then .inr (3, [va_rf (S.R 7 a)])
  else if S.K a = 4 then .inr (4, [va_rf (S.R 8 a), va_rf (S.R 9 a), .int (S.I 5 a), .int (S.I 6 a)])
  else if S.K a = 5 then .inr (5, [.int (S.I 7 a), .int (S.I 8 a), va_rf (S.R 10 a), va_rf (S.R 11 a), .int (S.I 9 a), .int (S.I 10 a)])
  else if S.K a = 6 then .inl (cI, S.N a, .inl (S.A a))
  else .inl (cR, S.N a, .inr (.inr (.inr (.inr (S.B a)))))
/-! THE SURROUNDINGS of a walk: class numbers and slots; the array kinds' numbers (int, Row, long); the cells that may change; the fixed cells -/
def qE : Type := va_G × ClassId × ClassId × ClassId × (Nat → Prop) × va_W
abbrev qE.D (E : qE) : va_G := E.1
abbrev qE.cI (E : qE) : ClassId := E.2.1
abbrev qE.cR (E : qE) : ClassId := E.2.2.1
abbrev qE.cJ (E : qE) : ClassId := E.2.2.2.1
abbrev qE.A (E : qE) : Nat → Prop := E.2.2.2.2.1
abbrev qE.X (E : qE) : va_W := E.2.2.2.2.2
abbrev qE.T (E : qE) : List (ClassId × FieldType) := [(E.cI, .int), (E.cR, .object RX1), (E.cJ, .long)]
abbrev q_w (E : qE) (S : qS) : va_W := E.X ++ va_pl S.L (qF E.cI E.cR S)
/-! THE WORDS: those of the tables that stand through every call -/
def q_cd : Cond → Bool
  | .castable _ _ => true
  | .declares _ => true
  | _ => false
def q_gw (w : Cond) : Bool := w.onTables && (w.keeps || w.keepsH || q_cd w)
def q_T : List Cond := lw_tbl.filter q_gw
theorem q_in {w : Cond} (i : Nat) (h : lw_tbl[i]? = some w) (hg : q_gw w = true) : w ∈ q_T := List.mem_filter.mpr ⟨List.mem_of_getElem? h, hg⟩
theorem q_on {w : Cond} (h : w ∈ q_T) : w.onTables = true := by
  have h1 := (List.mem_filter.mp h).2
  simp only [q_gw, Bool.and_eq_true] at h1
  exact h1.1
theorem q_warm {s U : State} (hW : s.WarmedH U.vm) {w : Cond} (h : w ∈ q_T) (hb : va_Nw w s) : va_Nw w U := by
  have h1 := (List.mem_filter.mp h).2
  simp only [q_gw, Bool.and_eq_true, Bool.or_eq_true] at h1
  obtain ⟨h0, (h2 | h2) | h2⟩ := h1
  · have h3 := Cond.onTables_warm (T := U) (args' := #[]) hW h0 h2 hb
    rw [State.setVm_self] at h3
    exact h3
  · have h3 := Cond.onTables_warmH (T := U) (args' := #[]) hW h0 h2 hb
    rw [State.setVm_self] at h3
    exact h3
  · cases w with
    | castable a b => exact va_Nw.warmC hW hb
    | declares a => exact va_Nw.warmD hW hb
    | _ => cases h2
/-- the texts of the exceptions -/
def q_strs : List (Nat × String) := [(22, "n is not 16 .. 16384"), (66, "no used piece begins there"), (72, "no free piece begins there"), (88, "k is below 0"), (118, "what is not 0 .. 7"), (137, "size is not 3 .. 5000")]
def q_str (U : State) : Prop := ∀ x ∈ q_strs, ∃ a, vk_R RX4 x.1 x.2 a U
/-- what the tables say, through a whole run -/
def q_K (E : qE) (U : State) : Prop := va_K E.D vwCl E.T U ∧ (∀ w ∈ q_T, va_Nw w U) ∧ va_AO RX1 U ∧ q_str U ∧ (∀ a, (Cond.arrayClass .int).before a U = true) ∧ (∀ a, (Cond.arrayClass .long).before a U = true)
theorem q_K.warm {E : qE} {s U : State} (hW : s.WarmedH U.vm) (h : q_K E s) : q_K E U :=
  ⟨h.1.moved hW.alike, fun w hw => q_warm hW hw (h.2.1 w hw), h.2.2.1.moved hW.alike, fun x hx => by
    obtain ⟨a, ha⟩ := h.2.2.2.1 x hx
    exact ⟨a, vk_R.warm hW ha⟩, fun a => word_at hW (Or.inr ⟨_, rfl⟩) (h.2.2.2.2.1 #[]), fun a => word_at hW (Or.inr ⟨_, rfl⟩) (h.2.2.2.2.2 #[])⟩
theorem q_K.blind {E : qE} {U : State} (g : JFrame) (mk : MethodId) (a : Array Value) (h : q_K E U) : q_K E (U.calling g mk a) :=
  ⟨va_K.moved (u := U) (U := U.calling g mk a) (Vm.Alike.refl U.vm) h.1, fun w hw => va_Nw.same (u := U) (q_on hw) rfl (h.2.1 w hw), va_AO.moved (u := U) (U := U.calling g mk a) (Vm.Alike.refl U.vm) h.2.2.1, fun x hx => by
    obtain ⟨b, hb⟩ := h.2.2.2.1 x hx
    exact ⟨b, vk_R.same (u := U) rfl hb⟩, fun b => h.2.2.2.2.1 b, fun b => h.2.2.2.2.2 b⟩
def q_Z (E : qE) (U : State) (H : Heap) : Prop := vx_Zq Bundle.tN "UNASSIGNED_STACK" Bundle.steD E.A U H ∧ vx_Zq Bundle.tN "SUPPRESSED_SENTINEL" Bundle.listD E.A U H
/-- the world at a method's entry, and behind it -/
def q_I (E : qE) (S : qS) (U : State) : Prop := q_K E U ∧ q_Z E U U.heap ∧ va_P E.D vwCl (q_w E S) U.heap ∧ va_D E.A (q_w E S) ∧ ∀ q, U.heap.size ≤ q → E.A q
def q_B (E : qE) (S : qS) (t : State) : Prop := va_P E.D vwCl (q_w E S) t.heap ∧ va_D E.A (q_w E S)
/-- the world inside a method that was entered at s -/
def q_V (E : qE) (s : State) (S : qS) (H : Heap) (locs : List Loc) : Prop := q_K E s ∧ q_Z E s s.heap ∧ va_P E.D vwCl (q_w E S) H ∧ va_D E.A (q_w E S) ∧ va_S E.A s.heap H locs ∧ ∀ q, s.heap.size ≤ q → E.A q
theorem q_I.blind {E : qE} {S : qS} {U : State} (g : JFrame) (mk : MethodId) (a : Array Value) (h : q_I E S U) : q_I E S (U.calling g mk a) :=
  ⟨h.1.blind g mk a, ⟨vx_Zq.moved (u := U) (U := U.calling g mk a) (Vm.Alike.refl U.vm) h.2.1.1, vx_Zq.moved (u := U) (U := U.calling g mk a) (Vm.Alike.refl U.vm) h.2.1.2⟩, h.2.2⟩
theorem q_V.pre {E : qE} {s : State} {S : qS} {H : Heap} {locs : List Loc} (h : q_V E s S H locs) {U : State} (hU : U.heap = H) (hW : s.WarmedH U.vm) : q_I E S U := by
  obtain ⟨h1, ⟨z1, z2⟩, h3, h4, h5, h6⟩ := h
  subst hU
  have hk : ∀ a : Nat, a < s.heap.size → ¬ E.A a → U.heap[a]? = s.heap[a]? := fun a l1 l2 => h5.2.1 a l1 l2
  exact ⟨h1.warm hW, ⟨(z1.kept hk).moved hW.alike, (z2.kept hk).moved hW.alike⟩, h3, h4, fun q hq => h6 q (Nat.le_trans h5.1 hq)⟩
/-! contracts: one word, its code; all else stands in the world -/
abbrev q_Mi (l : Launch) (y : MethodName) (cc : ByteArray) (n : Nat) (rt : FieldType) (rm : Room) (E : qE) (av : List Value) (S : qS) (post : Int32 → qS → Prop) (mc ms : Nat) : Prop := Met l y [.code y cc n (some rt)] rm (va_Pc av (q_I E S)) (va_Qi post (q_B E) E.A) mc ms E.A
abbrev q_Mv (l : Launch) (y : MethodName) (cc : ByteArray) (n : Nat) (rm : Room) (E : qE) (av : List Value) (S : qS) (post : qS → Prop) (mc ms : Nat) : Prop := Met l y [.code y cc n none] rm (va_Pc av (q_I E S)) (va_Qv post (q_B E) E.A) mc ms E.A
abbrev q_Mq (l : Launch) (y : MethodName) (cc : ByteArray) (n : Nat) (rt : FieldType) (rm : Room) (E : qE) (av : List Value) (S : qS) (post : Option Nat → qS → Prop) (mc ms : Nat) : Prop := Met l y [.code y cc n (some rt)] rm (va_Pc av (q_I E S)) (va_Qq post (q_B E) E.A) mc ms E.A
/-- from a contract to the walk of its body -/
theorem q_ofW {l : Launch} {y : MethodName} {cc : ByteArray} {n mc ms : Nat} {ret : Option FieldType} {rm : Room} {E : qE} {av : List Value} {S : qS} {Qc : Array Value → State → Outcome → State → Prop} (hy : plainName y.cls = true) (hn : (lg_sl av).length ≤ n)
    (body : ∀ (p : Program) (e : Env) (s : State) (m : MethodId) (below : List Frame) (meth : Method) (c : Code), CallFix p m c cc n s av.toArray q_T y.cls → q_V E s S s.heap [] → meth.sig.returnType = ret → meth.locks = false → meth.name = y.name → ∀ ls : Array Slot, lv_has ls n (lv_args 0 av) →
      W p l e rm s m av.toArray below meth c s.heap [] 0 0 (MQ below Qc av.toArray s mc ms E.A) (F0 m 0 ls [])) : Met l y [.code y cc n ret] rm (va_Pc av (q_I E S)) Qc mc ms E.A := by
  refine Met.ofW (cc := cc) (maxL := n) (ret := ret) (ws' := []) hy rfl ?_
  intro p e s m args below meth c s₁ B hml hv
  obtain ⟨rfl, hK, hZ, hP, hD, hA⟩ := hv
  rw [lg_entry_eq]
  exact body p e s m below meth c ⟨B.exec, B.bytes, hml, findClass_of_methodNamed B.named, fun w hw => va_Nw.use (q_on hw) (hK.2.1 w hw)⟩ ⟨hK, hZ, hP, hD, va_S.rf, hA⟩ B.returns B.notSynchronized (name_of_methodNamed B.named B.method).1 _ (lv_entry av hn)
end
section
theorem wd_0 : (Cond.selects RX4 yX4_startWith yX4_startWith) ∈ q_T := q_in 0 (by decide +kernel) (by decide +kernel)
theorem wd_1 : (Cond.selects RX2 yX2_clear yX2_clear) ∈ q_T := q_in 1 (by decide +kernel) (by decide +kernel)
theorem wd_2 : (Cond.selects RX2 yX2_putIn yX2_putIn) ∈ q_T := q_in 2 (by decide +kernel) (by decide +kernel)
theorem wd_3 : (Cond.selects RX3 yX3_rowMadeFor yX3_rowMadeFor) ∈ q_T := q_in 3 (by decide +kernel) (by decide +kernel)
theorem wd_4 : (Cond.selects RX3 yX3_rowOf yX3_rowOf) ∈ q_T := q_in 4 (by decide +kernel) (by decide +kernel)
theorem wd_5 : (Cond.selects RX3 yX3_parentFor yX3_parentFor) ∈ q_T := q_in 5 (by decide +kernel) (by decide +kernel)
theorem wd_6 : (Cond.selects RX3 yX3_hang yX3_hang) ∈ q_T := q_in 6 (by decide +kernel) (by decide +kernel)
theorem wd_7 : (Cond.selects RX1 yX1_push yX1_push) ∈ q_T := q_in 7 (by decide +kernel) (by decide +kernel)
theorem wd_8 : (Cond.selects RX4 yX4_swallowFreeBehind yX4_swallowFreeBehind) ∈ q_T := q_in 8 (by decide +kernel) (by decide +kernel)
theorem wd_9 : (Cond.selects RX2 yX2_pullOut yX2_pullOut) ∈ q_T := q_in 9 (by decide +kernel) (by decide +kernel)
theorem wd_10 : (Cond.selects RX2 yX2_rowOf yX2_rowOf) ∈ q_T := q_in 10 (by decide +kernel) (by decide +kernel)
theorem wd_11 : (Cond.selects RX1 yX1_drop yX1_drop) ∈ q_T := q_in 11 (by decide +kernel) (by decide +kernel)
theorem wd_12 : (Cond.selects RX3 yX3_remove yX3_remove) ∈ q_T := q_in 12 (by decide +kernel) (by decide +kernel)
theorem wd_13 : (Cond.selects RX4 yX4_beginningAt yX4_beginningAt) ∈ q_T := q_in 13 (by decide +kernel) (by decide +kernel)
theorem wd_14 : (Cond.selects RX4 yX4_holding yX4_holding) ∈ q_T := q_in 14 (by decide +kernel) (by decide +kernel)
theorem wd_15 : (Cond.selects RX0 yX0_isShelved yX0_isShelved) ∈ q_T := q_in 15 (by decide +kernel) (by decide +kernel)
theorem wd_16 : (Cond.selects RX2 yX2_wrongThings yX2_wrongThings) ∈ q_T := q_in 16 (by decide +kernel) (by decide +kernel)
theorem wd_17 : (Cond.selects RX3 yX3_leastFrom yX3_leastFrom) ∈ q_T := q_in 17 (by decide +kernel) (by decide +kernel)
theorem wd_18 : (Cond.selects "java/lang/Throwable" ⟨"java/lang/Throwable", "fillInStackTrace", "(I)Ljava/lang/Throwable;"⟩ ⟨"java/lang/Throwable", "fillInStackTrace", "(I)Ljava/lang/Throwable;"⟩) ∈ q_T := q_in 18 (by decide +kernel) (by decide +kernel)
theorem wd_19 : (Cond.selects RX2 yX2_smallestFrom yX2_smallestFrom) ∈ q_T := q_in 19 (by decide +kernel) (by decide +kernel)
theorem wd_20 : (Cond.selects RX4 yX4_cut yX4_cut) ∈ q_T := q_in 20 (by decide +kernel) (by decide +kernel)
theorem wd_21 : (Cond.selects RX1 yX1_kthLatest yX1_kthLatest) ∈ q_T := q_in 21 (by decide +kernel) (by decide +kernel)
theorem wd_22 : (Cond.selects RX4 yX4_freeCells yX4_freeCells) ∈ q_T := q_in 22 (by decide +kernel) (by decide +kernel)
theorem wd_23 : (Cond.selects RX4 yX4_crumbCells yX4_crumbCells) ∈ q_T := q_in 23 (by decide +kernel) (by decide +kernel)
theorem wd_24 : (Cond.selects RX0 yX0_isCrumb yX0_isCrumb) ∈ q_T := q_in 24 (by decide +kernel) (by decide +kernel)
theorem wd_25 : (Cond.selects RX4 yX4_usedPieces yX4_usedPieces) ∈ q_T := q_in 25 (by decide +kernel) (by decide +kernel)
theorem wd_26 : (Cond.selects RX4 yX4_shelvedPieces yX4_shelvedPieces) ∈ q_T := q_in 26 (by decide +kernel) (by decide +kernel)
theorem wd_27 : (Cond.selects RX4 yX4_crumbs yX4_crumbs) ∈ q_T := q_in 27 (by decide +kernel) (by decide +kernel)
theorem wd_28 : (Cond.selects RX4 yX4_greatestFree yX4_greatestFree) ∈ q_T := q_in 28 (by decide +kernel) (by decide +kernel)
theorem wd_29 : (Cond.selects RX5 yX5_goes yX5_goes) ∈ q_T := q_in 29 (by decide +kernel) (by decide +kernel)
theorem wd_30 : (Cond.selects RX5 yX5_release yX5_release) ∈ q_T := q_in 30 (by decide +kernel) (by decide +kernel)
theorem wd_31 : (Cond.selects RX5 yX5_best yX5_best) ∈ q_T := q_in 31 (by decide +kernel) (by decide +kernel)
theorem wd_32 : (Cond.selects RX5 yX5_length yX5_length) ∈ q_T := q_in 32 (by decide +kernel) (by decide +kernel)
theorem wd_33 : (Cond.selects RX5 yX5_known yX5_known) ∈ q_T := q_in 33 (by decide +kernel) (by decide +kernel)
theorem wd_34 : (Cond.selects RX5 yX5_joined yX5_joined) ∈ q_T := q_in 34 (by decide +kernel) (by decide +kernel)
theorem wd_35 : (Cond.selects RX5 yX5_greatest yX5_greatest) ∈ q_T := q_in 35 (by decide +kernel) (by decide +kernel)
theorem wd_36 : (Cond.initialized RL) ∈ q_T := q_in 36 (by decide +kernel) (by decide +kernel)
theorem wd_37 : (Cond.initialized RX4) ∈ q_T := q_in 37 (by decide +kernel) (by decide +kernel)
theorem wd_38 : (Cond.initialized RX2) ∈ q_T := q_in 38 (by decide +kernel) (by decide +kernel)
theorem wd_39 : (Cond.initialized RX1) ∈ q_T := q_in 39 (by decide +kernel) (by decide +kernel)
theorem wd_40 : (Cond.initialized RX3) ∈ q_T := q_in 40 (by decide +kernel) (by decide +kernel)
theorem wd_41 : (Cond.initialized RX0) ∈ q_T := q_in 41 (by decide +kernel) (by decide +kernel)
theorem wd_42 : (Cond.initialized RX5) ∈ q_T := q_in 42 (by decide +kernel) (by decide +kernel)
theorem wd_43 : (Cond.initialized "java/lang/Throwable") ∈ q_T := q_in 43 (by decide +kernel) (by decide +kernel)
theorem wd_44 : (Cond.initialized "java/lang/Exception") ∈ q_T := q_in 44 (by decide +kernel) (by decide +kernel)
theorem wd_45 : (Cond.initialized "java/lang/RuntimeException") ∈ q_T := q_in 45 (by decide +kernel) (by decide +kernel)
theorem wd_46 : (Cond.initialized "java/lang/IllegalArgumentException") ∈ q_T := q_in 46 (by decide +kernel) (by decide +kernel)
theorem wd_47 : (Cond.initialized "java/lang/Math") ∈ q_T := q_in 47 (by decide +kernel) (by decide +kernel)
theorem wd_48 : (Cond.initialized "java/util/NoSuchElementException") ∈ q_T := q_in 48 (by decide +kernel) (by decide +kernel)
theorem wd_49 : (Cond.classLink RL 8 RX4) ∈ q_T := q_in 49 (by decide +kernel) (by decide +kernel)
theorem wd_50 : (Cond.instantiable RX4 4) ∈ q_T := q_in 50 (by decide +kernel) (by decide +kernel)
theorem wd_51 : (Cond.methodLink RL 36 yX4_init) ∈ q_T := q_in 51 (by decide +kernel) (by decide +kernel)
theorem wd_52 : (Cond.instanceMethod yX4_init) ∈ q_T := q_in 52 (by decide +kernel) (by decide +kernel)
theorem wd_53 : (Cond.code yX4_init cX4_init 1 none) ∈ q_T := q_in 53 (by decide +kernel) (by decide +kernel)
theorem wd_54 : (Cond.methodLink RX4 1 objectInit) ∈ q_T := q_in 54 (by decide +kernel) (by decide +kernel)
theorem wd_55 : (Cond.instanceMethod objectInit) ∈ q_T := q_in 55 (by decide +kernel) (by decide +kernel)
theorem wd_56 : (Cond.code objectInit ⟨#[0xb1]⟩ 1 none) ∈ q_T := q_in 56 (by decide +kernel) (by decide +kernel)
theorem wd_57 : (Cond.classLink RX4 7 RX2) ∈ q_T := q_in 57 (by decide +kernel) (by decide +kernel)
theorem wd_58 : (Cond.instantiable RX2 3) ∈ q_T := q_in 58 (by decide +kernel) (by decide +kernel)
theorem wd_59 : (Cond.methodLinkNest RX4 9 yX2_init RX4) ∈ q_T := q_in 59 (by decide +kernel) (by decide +kernel)
theorem wd_60 : (Cond.instanceMethod yX2_init) ∈ q_T := q_in 60 (by decide +kernel) (by decide +kernel)
theorem wd_61 : (Cond.code yX2_init cX2_init 2 none) ∈ q_T := q_in 61 (by decide +kernel) (by decide +kernel)
theorem wd_62 : (Cond.methodLink RX2 3 objectInit) ∈ q_T := q_in 62 (by decide +kernel) (by decide +kernel)
theorem wd_63 : (Cond.classLink RX2 9 RX1) ∈ q_T := q_in 63 (by decide +kernel) (by decide +kernel)
theorem wd_65 : (Cond.instantiable RX1 4) ∈ q_T := q_in 65 (by decide +kernel) (by decide +kernel)
theorem wd_66 : (Cond.methodLinkNest RX2 17 yX1_init RX4) ∈ q_T := q_in 66 (by decide +kernel) (by decide +kernel)
theorem wd_67 : (Cond.instanceMethod yX1_init) ∈ q_T := q_in 67 (by decide +kernel) (by decide +kernel)
theorem wd_68 : (Cond.code yX1_init cX1_init 2 none) ∈ q_T := q_in 68 (by decide +kernel) (by decide +kernel)
theorem wd_69 : (Cond.methodLink RX1 1 objectInit) ∈ q_T := q_in 69 (by decide +kernel) (by decide +kernel)
theorem wd_70 : (Cond.fieldLink RX1 7 RX1 "cells" "I") ∈ q_T := q_in 70 (by decide +kernel) (by decide +kernel)
theorem wd_71 : (Cond.fieldLinkNest RX3 13 RX1 "cells" "I" RX4) ∈ q_T := q_in 71 (by decide +kernel) (by decide +kernel)
theorem wd_72 : (Cond.fieldLinkNest RX2 76 RX1 "cells" "I" RX4) ∈ q_T := q_in 72 (by decide +kernel) (by decide +kernel)
theorem wd_73 : (Cond.fieldLink RX1 13 RX1 "latest" "LChunkShelf$Piece;") ∈ q_T := q_in 73 (by decide +kernel) (by decide +kernel)
theorem wd_74 : (Cond.fieldLinkNest RX2 27 RX1 "latest" "LChunkShelf$Piece;" RX4) ∈ q_T := q_in 74 (by decide +kernel) (by decide +kernel)
theorem wd_75 : (Cond.fieldLinkNest RX3 19 RX1 "less" "LChunkShelf$Row;" RX4) ∈ q_T := q_in 75 (by decide +kernel) (by decide +kernel)
theorem wd_76 : (Cond.fieldLinkNest RX3 22 RX1 "more" "LChunkShelf$Row;" RX4) ∈ q_T := q_in 76 (by decide +kernel) (by decide +kernel)
theorem wd_86 : (Cond.classLink RX2 20 RX3) ∈ q_T := q_in 86 (by decide +kernel) (by decide +kernel)
theorem wd_87 : (Cond.instantiable RX3 1) ∈ q_T := q_in 87 (by decide +kernel) (by decide +kernel)
theorem wd_88 : (Cond.methodLinkNest RX2 22 yX3_init RX4) ∈ q_T := q_in 88 (by decide +kernel) (by decide +kernel)
theorem wd_89 : (Cond.instanceMethod yX3_init) ∈ q_T := q_in 89 (by decide +kernel) (by decide +kernel)
theorem wd_90 : (Cond.code yX3_init cX3_init 1 none) ∈ q_T := q_in 90 (by decide +kernel) (by decide +kernel)
theorem wd_91 : (Cond.methodLink RX3 1 objectInit) ∈ q_T := q_in 91 (by decide +kernel) (by decide +kernel)
theorem wd_92 : (Cond.fieldLink RX3 7 RX3 "root" "LChunkShelf$Row;") ∈ q_T := q_in 92 (by decide +kernel) (by decide +kernel)
theorem wd_93 : (Cond.fieldLinkNest RX2 31 RX3 "root" "LChunkShelf$Row;" RX4) ∈ q_T := q_in 93 (by decide +kernel) (by decide +kernel)
theorem wd_97 : (Cond.fieldLink RX2 11 RX2 "small" "[LChunkShelf$Row;") ∈ q_T := q_in 97 (by decide +kernel) (by decide +kernel)
theorem wd_98 : (Cond.fieldLink RX2 23 RX2 "great" "LChunkShelf$Tree;") ∈ q_T := q_in 98 (by decide +kernel) (by decide +kernel)
theorem wd_99 : (Cond.fieldLink RX2 54 RX2 "now" "J") ∈ q_T := q_in 99 (by decide +kernel) (by decide +kernel)
theorem wd_107 : (Cond.methodLink RX4 16 yX4_startWith) ∈ q_T := q_in 107 (by decide +kernel) (by decide +kernel)
theorem wd_109 : (Cond.instanceMethod yX4_startWith) ∈ q_T := q_in 109 (by decide +kernel) (by decide +kernel)
theorem wd_110 : (Cond.code yX4_startWith cX4_startWith 2 none) ∈ q_T := q_in 110 (by decide +kernel) (by decide +kernel)
theorem wd_111 : (Cond.methodLinkNest RX4 131 yX2_clear RX4) ∈ q_T := q_in 111 (by decide +kernel) (by decide +kernel)
theorem wd_113 : (Cond.instanceMethod yX2_clear) ∈ q_T := q_in 113 (by decide +kernel) (by decide +kernel)
theorem wd_114 : (Cond.code yX2_clear cX2_clear 2 none) ∈ q_T := q_in 114 (by decide +kernel) (by decide +kernel)
theorem wd_115 : (Cond.classLink RX4 46 RX0) ∈ q_T := q_in 115 (by decide +kernel) (by decide +kernel)
theorem wd_116 : (Cond.instantiable RX0 7) ∈ q_T := q_in 116 (by decide +kernel) (by decide +kernel)
theorem wd_117 : (Cond.methodLinkNest RX4 134 yX0_init RX4) ∈ q_T := q_in 117 (by decide +kernel) (by decide +kernel)
theorem wd_118 : (Cond.instanceMethod yX0_init) ∈ q_T := q_in 118 (by decide +kernel) (by decide +kernel)
theorem wd_119 : (Cond.code yX0_init cX0_init 4 none) ∈ q_T := q_in 119 (by decide +kernel) (by decide +kernel)
theorem wd_120 : (Cond.methodLink RX0 3 objectInit) ∈ q_T := q_in 120 (by decide +kernel) (by decide +kernel)
theorem wd_121 : (Cond.fieldLink RX0 9 RX0 "at" "I") ∈ q_T := q_in 121 (by decide +kernel) (by decide +kernel)
theorem wd_122 : (Cond.fieldLinkNest RX4 54 RX0 "at" "I" RX4) ∈ q_T := q_in 122 (by decide +kernel) (by decide +kernel)
theorem wd_123 : (Cond.fieldLink RX0 15 RX0 "cells" "I") ∈ q_T := q_in 123 (by decide +kernel) (by decide +kernel)
theorem wd_124 : (Cond.fieldLinkNest RX4 45 RX0 "cells" "I" RX4) ∈ q_T := q_in 124 (by decide +kernel) (by decide +kernel)
theorem wd_125 : (Cond.fieldLinkNest RX2 61 RX0 "cells" "I" RX4) ∈ q_T := q_in 125 (by decide +kernel) (by decide +kernel)
theorem wd_126 : (Cond.fieldLink RX0 22 RX0 "isFree" "Z") ∈ q_T := q_in 126 (by decide +kernel) (by decide +kernel)
theorem wd_127 : (Cond.fieldLinkNest RX4 60 RX0 "isFree" "Z" RX4) ∈ q_T := q_in 127 (by decide +kernel) (by decide +kernel)
theorem wd_128 : (Cond.fieldLinkNest RX2 48 RX0 "isFree" "Z" RX4) ∈ q_T := q_in 128 (by decide +kernel) (by decide +kernel)
theorem wd_129 : (Cond.fieldLinkNest RX2 58 RX0 "since" "J" RX4) ∈ q_T := q_in 129 (by decide +kernel) (by decide +kernel)
theorem wd_130 : (Cond.fieldLink RX0 18 RX0 "behind" "LChunkShelf$Piece;") ∈ q_T := q_in 130 (by decide +kernel) (by decide +kernel)
theorem wd_131 : (Cond.fieldLinkNest RX4 82 RX0 "behind" "LChunkShelf$Piece;" RX4) ∈ q_T := q_in 131 (by decide +kernel) (by decide +kernel)
theorem wd_132 : (Cond.fieldLinkNest RX1 17 RX0 "older" "LChunkShelf$Piece;" RX4) ∈ q_T := q_in 132 (by decide +kernel) (by decide +kernel)
theorem wd_133 : (Cond.fieldLinkNest RX2 91 RX0 "older" "LChunkShelf$Piece;" RX4) ∈ q_T := q_in 133 (by decide +kernel) (by decide +kernel)
theorem wd_134 : (Cond.fieldLinkNest RX2 88 RX0 "awaited" "Z" RX4) ∈ q_T := q_in 134 (by decide +kernel) (by decide +kernel)
theorem wd_135 : (Cond.fieldLinkNest RX4 124 RX0 "awaited" "Z" RX4) ∈ q_T := q_in 135 (by decide +kernel) (by decide +kernel)
theorem wd_151 : (Cond.methodLinkNest RX4 69 yX2_putIn RX4) ∈ q_T := q_in 151 (by decide +kernel) (by decide +kernel)
theorem wd_153 : (Cond.instanceMethod yX2_putIn) ∈ q_T := q_in 153 (by decide +kernel) (by decide +kernel)
theorem wd_154 : (Cond.code yX2_putIn cX2_putIn 2 none) ∈ q_T := q_in 154 (by decide +kernel) (by decide +kernel)
theorem wd_155 : (Cond.methodLinkNest RX2 65 yX3_rowMadeFor RX4) ∈ q_T := q_in 155 (by decide +kernel) (by decide +kernel)
theorem wd_157 : (Cond.instanceMethod yX3_rowMadeFor) ∈ q_T := q_in 157 (by decide +kernel) (by decide +kernel)
theorem wd_158 : (Cond.code yX3_rowMadeFor cX3_rowMadeFor 3 (some (.object "ChunkShelf$Row"))) ∈ q_T := q_in 158 (by decide +kernel) (by decide +kernel)
theorem wd_159 : (Cond.methodLink RX3 25 yX3_rowOf) ∈ q_T := q_in 159 (by decide +kernel) (by decide +kernel)
theorem wd_161 : (Cond.instanceMethod yX3_rowOf) ∈ q_T := q_in 161 (by decide +kernel) (by decide +kernel)
theorem wd_162 : (Cond.code yX3_rowOf cX3_rowOf 3 (some (.object "ChunkShelf$Row"))) ∈ q_T := q_in 162 (by decide +kernel) (by decide +kernel)
theorem wd_163 : (Cond.classLink RX3 14 RX1) ∈ q_T := q_in 163 (by decide +kernel) (by decide +kernel)
theorem wd_164 : (Cond.methodLinkNest RX3 29 yX1_init RX4) ∈ q_T := q_in 164 (by decide +kernel) (by decide +kernel)
theorem wd_165 : (Cond.methodLink RX3 32 yX3_parentFor) ∈ q_T := q_in 165 (by decide +kernel) (by decide +kernel)
theorem wd_167 : (Cond.instanceMethod yX3_parentFor) ∈ q_T := q_in 167 (by decide +kernel) (by decide +kernel)
theorem wd_168 : (Cond.code yX3_parentFor cX3_parentFor 4 (some (.object "ChunkShelf$Row"))) ∈ q_T := q_in 168 (by decide +kernel) (by decide +kernel)
theorem wd_169 : (Cond.methodLink RX3 35 yX3_hang) ∈ q_T := q_in 169 (by decide +kernel) (by decide +kernel)
theorem wd_171 : (Cond.instanceMethod yX3_hang) ∈ q_T := q_in 171 (by decide +kernel) (by decide +kernel)
theorem wd_172 : (Cond.code yX3_hang cX3_hang 4 none) ∈ q_T := q_in 172 (by decide +kernel) (by decide +kernel)
theorem wd_173 : (Cond.methodLinkNest RX2 68 yX1_push RX4) ∈ q_T := q_in 173 (by decide +kernel) (by decide +kernel)
theorem wd_175 : (Cond.instanceMethod yX1_push) ∈ q_T := q_in 175 (by decide +kernel) (by decide +kernel)
theorem wd_176 : (Cond.code yX1_push cX1_push 2 none) ∈ q_T := q_in 176 (by decide +kernel) (by decide +kernel)
theorem wd_177 : (Cond.fieldLink RX4 10 RX4 "shelves" "LChunkShelf$Shelves;") ∈ q_T := q_in 177 (by decide +kernel) (by decide +kernel)
theorem wd_178 : (Cond.fieldLink RX4 78 RX4 "lowest" "LChunkShelf$Piece;") ∈ q_T := q_in 178 (by decide +kernel) (by decide +kernel)
theorem wd_179 : (Cond.fieldLink RX4 27 RX4 "cellCount" "I") ∈ q_T := q_in 179 (by decide +kernel) (by decide +kernel)
theorem wd_180 : (Cond.fieldLink RX4 38 RX4 "misses" "I") ∈ q_T := q_in 180 (by decide +kernel) (by decide +kernel)
theorem wd_190 : (Cond.methodLink RL 59 yX4_joinAll) ∈ q_T := q_in 190 (by decide +kernel) (by decide +kernel)
theorem wd_191 : (Cond.instanceMethod yX4_joinAll) ∈ q_T := q_in 191 (by decide +kernel) (by decide +kernel)
theorem wd_192 : (Cond.selects RX4 yX4_joinAll yX4_joinAll) ∈ q_T := q_in 192 (by decide +kernel) (by decide +kernel)
theorem wd_193 : (Cond.code yX4_joinAll cX4_joinAll 3 (some .int)) ∈ q_T := q_in 193 (by decide +kernel) (by decide +kernel)
theorem wd_194 : (Cond.methodLink RX4 74 yX4_swallowFreeBehind) ∈ q_T := q_in 194 (by decide +kernel) (by decide +kernel)
theorem wd_196 : (Cond.instanceMethod yX4_swallowFreeBehind) ∈ q_T := q_in 196 (by decide +kernel) (by decide +kernel)
theorem wd_197 : (Cond.code yX4_swallowFreeBehind cX4_swallowFreeBehind 4 (some .int)) ∈ q_T := q_in 197 (by decide +kernel) (by decide +kernel)
theorem wd_198 : (Cond.methodLinkNest RX4 41 yX2_pullOut RX4) ∈ q_T := q_in 198 (by decide +kernel) (by decide +kernel)
theorem wd_200 : (Cond.instanceMethod yX2_pullOut) ∈ q_T := q_in 200 (by decide +kernel) (by decide +kernel)
theorem wd_201 : (Cond.code yX2_pullOut cX2_pullOut 3 none) ∈ q_T := q_in 201 (by decide +kernel) (by decide +kernel)
theorem wd_202 : (Cond.methodLink RX2 72 yX2_rowOf) ∈ q_T := q_in 202 (by decide +kernel) (by decide +kernel)
theorem wd_204 : (Cond.instanceMethod yX2_rowOf) ∈ q_T := q_in 204 (by decide +kernel) (by decide +kernel)
theorem wd_205 : (Cond.code yX2_rowOf cX2_rowOf 2 (some (.object "ChunkShelf$Row"))) ∈ q_T := q_in 205 (by decide +kernel) (by decide +kernel)
theorem wd_206 : (Cond.methodLinkNest RX2 35 yX3_rowOf RX4) ∈ q_T := q_in 206 (by decide +kernel) (by decide +kernel)
theorem wd_207 : (Cond.methodLinkNest RX2 73 yX1_drop RX4) ∈ q_T := q_in 207 (by decide +kernel) (by decide +kernel)
theorem wd_209 : (Cond.instanceMethod yX1_drop) ∈ q_T := q_in 209 (by decide +kernel) (by decide +kernel)
theorem wd_210 : (Cond.code yX1_drop cX1_drop 3 none) ∈ q_T := q_in 210 (by decide +kernel) (by decide +kernel)
theorem wd_211 : (Cond.methodLinkNest RX2 77 yX3_remove RX4) ∈ q_T := q_in 211 (by decide +kernel) (by decide +kernel)
theorem wd_213 : (Cond.instanceMethod yX3_remove) ∈ q_T := q_in 213 (by decide +kernel) (by decide +kernel)
theorem wd_214 : (Cond.code yX3_remove cX3_remove 2 none) ∈ q_T := q_in 214 (by decide +kernel) (by decide +kernel)
theorem wd_215 : (Cond.methodLink RX3 39 yX3_heirOf) ∈ q_T := q_in 215 (by decide +kernel) (by decide +kernel)
theorem wd_216 : (Cond.static yX3_heirOf) ∈ q_T := q_in 216 (by decide +kernel) (by decide +kernel)
theorem wd_217 : (Cond.code yX3_heirOf cX3_heirOf 2 (some (.object "ChunkShelf$Row"))) ∈ q_T := q_in 217 (by decide +kernel) (by decide +kernel)
theorem wd_218 : (Cond.methodLink RL 66 yX4_piece) ∈ q_T := q_in 218 (by decide +kernel) (by decide +kernel)
theorem wd_219 : (Cond.instanceMethod yX4_piece) ∈ q_T := q_in 219 (by decide +kernel) (by decide +kernel)
theorem wd_220 : (Cond.selects RX4 yX4_piece yX4_piece) ∈ q_T := q_in 220 (by decide +kernel) (by decide +kernel)
theorem wd_221 : (Cond.code yX4_piece cX4_piece 3 (some .int)) ∈ q_T := q_in 221 (by decide +kernel) (by decide +kernel)
theorem wd_222 : (Cond.methodLink RX4 57 yX4_beginningAt) ∈ q_T := q_in 222 (by decide +kernel) (by decide +kernel)
theorem wd_224 : (Cond.instanceMethod yX4_beginningAt) ∈ q_T := q_in 224 (by decide +kernel) (by decide +kernel)
theorem wd_225 : (Cond.code yX4_beginningAt cX4_beginningAt 3 (some (.object "ChunkShelf$Piece"))) ∈ q_T := q_in 225 (by decide +kernel) (by decide +kernel)
theorem wd_226 : (Cond.methodLink RX4 85 yX4_holding) ∈ q_T := q_in 226 (by decide +kernel) (by decide +kernel)
theorem wd_228 : (Cond.instanceMethod yX4_holding) ∈ q_T := q_in 228 (by decide +kernel) (by decide +kernel)
theorem wd_229 : (Cond.code yX4_holding cX4_holding 4 (some (.object "ChunkShelf$Piece"))) ∈ q_T := q_in 229 (by decide +kernel) (by decide +kernel)
theorem wd_230 : (Cond.methodLink RL 70 yX4_cover) ∈ q_T := q_in 230 (by decide +kernel) (by decide +kernel)
theorem wd_231 : (Cond.instanceMethod yX4_cover) ∈ q_T := q_in 231 (by decide +kernel) (by decide +kernel)
theorem wd_232 : (Cond.selects RX4 yX4_cover yX4_cover) ∈ q_T := q_in 232 (by decide +kernel) (by decide +kernel)
theorem wd_233 : (Cond.code yX4_cover cX4_cover 3 (some .int)) ∈ q_T := q_in 233 (by decide +kernel) (by decide +kernel)
theorem wd_234 : (Cond.methodLink RL 81 yX4_faults) ∈ q_T := q_in 234 (by decide +kernel) (by decide +kernel)
theorem wd_235 : (Cond.instanceMethod yX4_faults) ∈ q_T := q_in 235 (by decide +kernel) (by decide +kernel)
theorem wd_236 : (Cond.selects RX4 yX4_faults yX4_faults) ∈ q_T := q_in 236 (by decide +kernel) (by decide +kernel)
theorem wd_237 : (Cond.code yX4_faults cX4_faults 6 (some .int)) ∈ q_T := q_in 237 (by decide +kernel) (by decide +kernel)
theorem wd_238 : (Cond.methodLinkNest RX4 120 yX0_isShelved RX4) ∈ q_T := q_in 238 (by decide +kernel) (by decide +kernel)
theorem wd_240 : (Cond.instanceMethod yX0_isShelved) ∈ q_T := q_in 240 (by decide +kernel) (by decide +kernel)
theorem wd_241 : (Cond.code yX0_isShelved cX0_isShelved 1 (some .boolean)) ∈ q_T := q_in 241 (by decide +kernel) (by decide +kernel)
theorem wd_242 : (Cond.methodLinkNest RX4 127 yX2_wrongThings RX4) ∈ q_T := q_in 242 (by decide +kernel) (by decide +kernel)
theorem wd_244 : (Cond.instanceMethod yX2_wrongThings) ∈ q_T := q_in 244 (by decide +kernel) (by decide +kernel)
theorem wd_245 : (Cond.code yX2_wrongThings cX2_wrongThings 7 (some .int)) ∈ q_T := q_in 245 (by decide +kernel) (by decide +kernel)
theorem wd_246 : (Cond.methodLink RX2 81 yX2_wrongInRow) ∈ q_T := q_in 246 (by decide +kernel) (by decide +kernel)
theorem wd_247 : (Cond.static yX2_wrongInRow) ∈ q_T := q_in 247 (by decide +kernel) (by decide +kernel)
theorem wd_248 : (Cond.code yX2_wrongInRow cX2_wrongInRow 5 (some .int)) ∈ q_T := q_in 248 (by decide +kernel) (by decide +kernel)
theorem wd_249 : (Cond.methodLink RX2 85 yX2_piecesIn) ∈ q_T := q_in 249 (by decide +kernel) (by decide +kernel)
theorem wd_250 : (Cond.static yX2_piecesIn) ∈ q_T := q_in 250 (by decide +kernel) (by decide +kernel)
theorem wd_251 : (Cond.code yX2_piecesIn cX2_piecesIn 4 (some .int)) ∈ q_T := q_in 251 (by decide +kernel) (by decide +kernel)
theorem wd_252 : (Cond.methodLinkNest RX2 45 yX3_leastFrom RX4) ∈ q_T := q_in 252 (by decide +kernel) (by decide +kernel)
theorem wd_254 : (Cond.instanceMethod yX3_leastFrom) ∈ q_T := q_in 254 (by decide +kernel) (by decide +kernel)
theorem wd_255 : (Cond.code yX3_leastFrom cX3_leastFrom 4 (some (.object "ChunkShelf$Row"))) ∈ q_T := q_in 255 (by decide +kernel) (by decide +kernel)
theorem wd_256 : (Cond.methodLink RL 40 yL_space) ∈ q_T := q_in 256 (by decide +kernel) (by decide +kernel)
theorem wd_257 : (Cond.static yL_space) ∈ q_T := q_in 257 (by decide +kernel) (by decide +kernel)
theorem wd_259 : (Cond.classLink RL 13 "java/lang/IllegalArgumentException") ∈ q_T := q_in 259 (by decide +kernel) (by decide +kernel)
theorem wd_260 : (Cond.methodLink RL 7 yX4_space) ∈ q_T := q_in 260 (by decide +kernel) (by decide +kernel)
theorem wd_261 : (Cond.instanceMethod yX4_space) ∈ q_T := q_in 261 (by decide +kernel) (by decide +kernel)
theorem wd_262 : (Cond.selects RX4 yX4_space yX4_space) ∈ q_T := q_in 262 (by decide +kernel) (by decide +kernel)
theorem wd_263 : (Cond.code yX4_space cX4_space 3 (some .int)) ∈ q_T := q_in 263 (by decide +kernel) (by decide +kernel)
theorem wd_264 : (Cond.classLink RX4 20 "java/lang/IllegalArgumentException") ∈ q_T := q_in 264 (by decide +kernel) (by decide +kernel)
theorem wd_265 : (Cond.instantiable "java/lang/IllegalArgumentException" 6) ∈ q_T := q_in 265 (by decide +kernel) (by decide +kernel)
theorem wd_266 : (Cond.castable "java/lang/IllegalArgumentException" "java/lang/IllegalArgumentException") ∈ q_T := q_in 266 (by decide +kernel) (by decide +kernel)
theorem wd_273 : (Cond.selects "java/lang/IllegalArgumentException" ⟨"java/lang/Throwable", "fillInStackTrace", "(I)Ljava/lang/Throwable;"⟩ ⟨"java/lang/Throwable", "fillInStackTrace", "(I)Ljava/lang/Throwable;"⟩) ∈ q_T := q_in 273 (by decide +kernel) (by decide +kernel)
theorem wd_274 : (Cond.selects "java/lang/IllegalArgumentException" ⟨"java/lang/Throwable", "fillInStackTrace", "()Ljava/lang/Throwable;"⟩ ⟨"java/lang/Throwable", "fillInStackTrace", "()Ljava/lang/Throwable;"⟩) ∈ q_T := q_in 274 (by decide +kernel) (by decide +kernel)
theorem wd_285 : (Cond.fieldLink "java/lang/Throwable" 198 "java/lang/Throwable" "backtrace" "Ljava/lang/Object;") ∈ q_T := q_in 285 (by decide +kernel) (by decide +kernel)
theorem wd_287 : (Cond.instanceMethod ⟨"java/lang/Throwable", "<init>", "()V"⟩) ∈ q_T := q_in 287 (by decide +kernel) (by decide +kernel)
theorem wd_289 : (Cond.methodLink "java/lang/Throwable" 1 objectInit) ∈ q_T := q_in 289 (by decide +kernel) (by decide +kernel)
theorem wd_290 : (Cond.fieldLink "java/lang/Throwable" 13 "java/lang/Throwable" "UNASSIGNED_STACK" "[Ljava/lang/StackTraceElement;") ∈ q_T := q_in 290 (by decide +kernel) (by decide +kernel)
theorem wd_292 : (Cond.fieldLink "java/lang/Throwable" 20 "java/lang/Throwable" "SUPPRESSED_SENTINEL" "Ljava/util/List;") ∈ q_T := q_in 292 (by decide +kernel) (by decide +kernel)
theorem wd_294 : (Cond.methodLink "java/lang/Throwable" 27 ⟨"java/lang/Throwable", "fillInStackTrace", "()Ljava/lang/Throwable;"⟩) ∈ q_T := q_in 294 (by decide +kernel) (by decide +kernel)
theorem wd_295 : (Cond.instanceMethod ⟨"java/lang/Throwable", "fillInStackTrace", "()Ljava/lang/Throwable;"⟩) ∈ q_T := q_in 295 (by decide +kernel) (by decide +kernel)
theorem wd_297 : (Cond.selects "java/util/NoSuchElementException" ⟨"java/lang/Throwable", "fillInStackTrace", "()Ljava/lang/Throwable;"⟩ ⟨"java/lang/Throwable", "fillInStackTrace", "()Ljava/lang/Throwable;"⟩) ∈ q_T := q_in 297 (by decide +kernel) (by decide +kernel)
theorem wd_299 : (Cond.methodLink "java/lang/Throwable" 202 ⟨"java/lang/Throwable", "fillInStackTrace", "(I)Ljava/lang/Throwable;"⟩) ∈ q_T := q_in 299 (by decide +kernel) (by decide +kernel)
theorem wd_301 : (Cond.instanceMethod ⟨"java/lang/Throwable", "fillInStackTrace", "(I)Ljava/lang/Throwable;"⟩) ∈ q_T := q_in 301 (by decide +kernel) (by decide +kernel)
theorem wd_302 : (Cond.instantiable "java/lang/Throwable" 6) ∈ q_T := q_in 302 (by decide +kernel) (by decide +kernel)
theorem wd_305 : (Cond.methodLink RX4 24 ⟨"java/lang/IllegalArgumentException", "<init>", "(Ljava/lang/String;)V"⟩) ∈ q_T := q_in 305 (by decide +kernel) (by decide +kernel)
theorem wd_306 : (Cond.instanceMethod ⟨"java/lang/IllegalArgumentException", "<init>", "(Ljava/lang/String;)V"⟩) ∈ q_T := q_in 306 (by decide +kernel) (by decide +kernel)
theorem wd_308 : (Cond.methodLink "java/lang/IllegalArgumentException" 7 ⟨"java/lang/RuntimeException", "<init>", "(Ljava/lang/String;)V"⟩) ∈ q_T := q_in 308 (by decide +kernel) (by decide +kernel)
theorem wd_309 : (Cond.instanceMethod ⟨"java/lang/RuntimeException", "<init>", "(Ljava/lang/String;)V"⟩) ∈ q_T := q_in 309 (by decide +kernel) (by decide +kernel)
theorem wd_311 : (Cond.methodLink "java/lang/RuntimeException" 7 ⟨"java/lang/Exception", "<init>", "(Ljava/lang/String;)V"⟩) ∈ q_T := q_in 311 (by decide +kernel) (by decide +kernel)
theorem wd_312 : (Cond.instanceMethod ⟨"java/lang/Exception", "<init>", "(Ljava/lang/String;)V"⟩) ∈ q_T := q_in 312 (by decide +kernel) (by decide +kernel)
theorem wd_314 : (Cond.methodLink "java/lang/Exception" 7 ⟨"java/lang/Throwable", "<init>", "(Ljava/lang/String;)V"⟩) ∈ q_T := q_in 314 (by decide +kernel) (by decide +kernel)
theorem wd_315 : (Cond.instanceMethod ⟨"java/lang/Throwable", "<init>", "(Ljava/lang/String;)V"⟩) ∈ q_T := q_in 315 (by decide +kernel) (by decide +kernel)
theorem wd_318 : (Cond.fieldLink "java/lang/Throwable" 31 "java/lang/Throwable" "detailMessage" "Ljava/lang/String;") ∈ q_T := q_in 318 (by decide +kernel) (by decide +kernel)
theorem wd_319 : (Cond.fieldLink "java/lang/Throwable" 7 "java/lang/Throwable" "cause" "Ljava/lang/Throwable;") ∈ q_T := q_in 319 (by decide +kernel) (by decide +kernel)
theorem wd_320 : (Cond.fieldLink "java/lang/Throwable" 17 "java/lang/Throwable" "stackTrace" "[Ljava/lang/StackTraceElement;") ∈ q_T := q_in 320 (by decide +kernel) (by decide +kernel)
theorem wd_321 : (Cond.fieldLink "java/lang/Throwable" 24 "java/lang/Throwable" "suppressedExceptions" "Ljava/util/List;") ∈ q_T := q_in 321 (by decide +kernel) (by decide +kernel)
theorem wd_331 : (Cond.methodLink RL 50 yL_take) ∈ q_T := q_in 331 (by decide +kernel) (by decide +kernel)
theorem wd_332 : (Cond.static yL_take) ∈ q_T := q_in 332 (by decide +kernel) (by decide +kernel)
theorem wd_334 : (Cond.methodLink RL 15 yX4_take) ∈ q_T := q_in 334 (by decide +kernel) (by decide +kernel)
theorem wd_335 : (Cond.instanceMethod yX4_take) ∈ q_T := q_in 335 (by decide +kernel) (by decide +kernel)
theorem wd_336 : (Cond.selects RX4 yX4_take yX4_take) ∈ q_T := q_in 336 (by decide +kernel) (by decide +kernel)
theorem wd_337 : (Cond.code yX4_take cX4_take 3 (some .int)) ∈ q_T := q_in 337 (by decide +kernel) (by decide +kernel)
theorem wd_338 : (Cond.methodLink RX4 31 yX4_requireSize) ∈ q_T := q_in 338 (by decide +kernel) (by decide +kernel)
theorem wd_339 : (Cond.static yX4_requireSize) ∈ q_T := q_in 339 (by decide +kernel) (by decide +kernel)
theorem wd_340 : (Cond.code yX4_requireSize cX4_requireSize 1 none) ∈ q_T := q_in 340 (by decide +kernel) (by decide +kernel)
theorem wd_342 : (Cond.methodLinkNest RX4 34 yX2_smallestFrom RX4) ∈ q_T := q_in 342 (by decide +kernel) (by decide +kernel)
theorem wd_344 : (Cond.instanceMethod yX2_smallestFrom) ∈ q_T := q_in 344 (by decide +kernel) (by decide +kernel)
theorem wd_345 : (Cond.code yX2_smallestFrom cX2_smallestFrom 4 (some (.object "ChunkShelf$Piece"))) ∈ q_T := q_in 345 (by decide +kernel) (by decide +kernel)
theorem wd_346 : (Cond.methodLink RX2 39 Lib.Math.max.name) ∈ q_T := q_in 346 (by decide +kernel) (by decide +kernel)
theorem wd_347 : (Cond.static Lib.Math.max.name) ∈ q_T := q_in 347 (by decide +kernel) (by decide +kernel)
theorem wd_348 : (Cond.code Lib.Math.max.name Lib.Math.max.code 2 (some .int)) ∈ q_T := q_in 348 (by decide +kernel) (by decide +kernel)
theorem wd_349 : (Cond.methodLink RX4 50 yX4_cut) ∈ q_T := q_in 349 (by decide +kernel) (by decide +kernel)
theorem wd_351 : (Cond.instanceMethod yX4_cut) ∈ q_T := q_in 351 (by decide +kernel) (by decide +kernel)
theorem wd_352 : (Cond.code yX4_cut cX4_cut 4 none) ∈ q_T := q_in 352 (by decide +kernel) (by decide +kernel)
theorem wd_353 : (Cond.methodLink RL 53 yL_give) ∈ q_T := q_in 353 (by decide +kernel) (by decide +kernel)
theorem wd_354 : (Cond.static yL_give) ∈ q_T := q_in 354 (by decide +kernel) (by decide +kernel)
theorem wd_356 : (Cond.classLink RL 21 "java/util/NoSuchElementException") ∈ q_T := q_in 356 (by decide +kernel) (by decide +kernel)
theorem wd_357 : (Cond.methodLink RL 18 yX4_give) ∈ q_T := q_in 357 (by decide +kernel) (by decide +kernel)
theorem wd_358 : (Cond.instanceMethod yX4_give) ∈ q_T := q_in 358 (by decide +kernel) (by decide +kernel)
theorem wd_359 : (Cond.selects RX4 yX4_give yX4_give) ∈ q_T := q_in 359 (by decide +kernel) (by decide +kernel)
theorem wd_360 : (Cond.code yX4_give cX4_give 3 (some .int)) ∈ q_T := q_in 360 (by decide +kernel) (by decide +kernel)
theorem wd_361 : (Cond.classLink RX4 64 "java/util/NoSuchElementException") ∈ q_T := q_in 361 (by decide +kernel) (by decide +kernel)
theorem wd_362 : (Cond.instantiable "java/util/NoSuchElementException" 6) ∈ q_T := q_in 362 (by decide +kernel) (by decide +kernel)
theorem wd_363 : (Cond.castable "java/util/NoSuchElementException" "java/util/NoSuchElementException") ∈ q_T := q_in 363 (by decide +kernel) (by decide +kernel)
theorem wd_364 : (Cond.selects "java/util/NoSuchElementException" ⟨"java/lang/Throwable", "fillInStackTrace", "(I)Ljava/lang/Throwable;"⟩ ⟨"java/lang/Throwable", "fillInStackTrace", "(I)Ljava/lang/Throwable;"⟩) ∈ q_T := q_in 364 (by decide +kernel) (by decide +kernel)
theorem wd_371 : (Cond.methodLink RX4 68 ⟨"java/util/NoSuchElementException", "<init>", "(Ljava/lang/String;)V"⟩) ∈ q_T := q_in 371 (by decide +kernel) (by decide +kernel)
theorem wd_372 : (Cond.instanceMethod ⟨"java/util/NoSuchElementException", "<init>", "(Ljava/lang/String;)V"⟩) ∈ q_T := q_in 372 (by decide +kernel) (by decide +kernel)
theorem wd_374 : (Cond.methodLink "java/util/NoSuchElementException" 13 ⟨"java/lang/RuntimeException", "<init>", "(Ljava/lang/String;)V"⟩) ∈ q_T := q_in 374 (by decide +kernel) (by decide +kernel)
theorem wd_377 : (Cond.methodLink RL 56 yL_join) ∈ q_T := q_in 377 (by decide +kernel) (by decide +kernel)
theorem wd_378 : (Cond.static yL_join) ∈ q_T := q_in 378 (by decide +kernel) (by decide +kernel)
theorem wd_380 : (Cond.methodLink RL 23 yX4_join) ∈ q_T := q_in 380 (by decide +kernel) (by decide +kernel)
theorem wd_381 : (Cond.instanceMethod yX4_join) ∈ q_T := q_in 381 (by decide +kernel) (by decide +kernel)
theorem wd_382 : (Cond.selects RX4 yX4_join yX4_join) ∈ q_T := q_in 382 (by decide +kernel) (by decide +kernel)
theorem wd_383 : (Cond.code yX4_join cX4_join 3 (some .int)) ∈ q_T := q_in 383 (by decide +kernel) (by decide +kernel)
theorem wd_385 : (Cond.methodLink RL 63 yL_suffices) ∈ q_T := q_in 385 (by decide +kernel) (by decide +kernel)
theorem wd_386 : (Cond.static yL_suffices) ∈ q_T := q_in 386 (by decide +kernel) (by decide +kernel)
theorem wd_388 : (Cond.methodLink RL 26 yX4_suffices) ∈ q_T := q_in 388 (by decide +kernel) (by decide +kernel)
theorem wd_389 : (Cond.instanceMethod yX4_suffices) ∈ q_T := q_in 389 (by decide +kernel) (by decide +kernel)
theorem wd_390 : (Cond.selects RX4 yX4_suffices yX4_suffices) ∈ q_T := q_in 390 (by decide +kernel) (by decide +kernel)
theorem wd_391 : (Cond.code yX4_suffices cX4_suffices 3 (some .int)) ∈ q_T := q_in 391 (by decide +kernel) (by decide +kernel)
theorem wd_392 : (Cond.methodLink RL 74 yL_free) ∈ q_T := q_in 392 (by decide +kernel) (by decide +kernel)
theorem wd_393 : (Cond.static yL_free) ∈ q_T := q_in 393 (by decide +kernel) (by decide +kernel)
theorem wd_395 : (Cond.methodLink RL 29 yX4_free) ∈ q_T := q_in 395 (by decide +kernel) (by decide +kernel)
theorem wd_396 : (Cond.instanceMethod yX4_free) ∈ q_T := q_in 396 (by decide +kernel) (by decide +kernel)
theorem wd_397 : (Cond.selects RX4 yX4_free yX4_free) ∈ q_T := q_in 397 (by decide +kernel) (by decide +kernel)
theorem wd_398 : (Cond.code yX4_free cX4_free 5 (some .int)) ∈ q_T := q_in 398 (by decide +kernel) (by decide +kernel)
theorem wd_400 : (Cond.methodLinkNest RX4 90 yX2_rowOf RX4) ∈ q_T := q_in 400 (by decide +kernel) (by decide +kernel)
theorem wd_401 : (Cond.methodLinkNest RX4 94 yX1_kthLatest RX4) ∈ q_T := q_in 401 (by decide +kernel) (by decide +kernel)
theorem wd_403 : (Cond.instanceMethod yX1_kthLatest) ∈ q_T := q_in 403 (by decide +kernel) (by decide +kernel)
theorem wd_404 : (Cond.code yX1_kthLatest cX1_kthLatest 4 (some (.object "ChunkShelf$Piece"))) ∈ q_T := q_in 404 (by decide +kernel) (by decide +kernel)
theorem wd_405 : (Cond.methodLink RL 78 yL_count) ∈ q_T := q_in 405 (by decide +kernel) (by decide +kernel)
theorem wd_406 : (Cond.static yL_count) ∈ q_T := q_in 406 (by decide +kernel) (by decide +kernel)
theorem wd_408 : (Cond.methodLink RL 33 yX4_count) ∈ q_T := q_in 408 (by decide +kernel) (by decide +kernel)
theorem wd_409 : (Cond.instanceMethod yX4_count) ∈ q_T := q_in 409 (by decide +kernel) (by decide +kernel)
theorem wd_410 : (Cond.selects RX4 yX4_count yX4_count) ∈ q_T := q_in 410 (by decide +kernel) (by decide +kernel)
theorem wd_411 : (Cond.code yX4_count cX4_count 2 (some .int)) ∈ q_T := q_in 411 (by decide +kernel) (by decide +kernel)
theorem wd_412 : (Cond.methodLink RX4 99 yX4_freeCells) ∈ q_T := q_in 412 (by decide +kernel) (by decide +kernel)
theorem wd_414 : (Cond.instanceMethod yX4_freeCells) ∈ q_T := q_in 414 (by decide +kernel) (by decide +kernel)
theorem wd_415 : (Cond.code yX4_freeCells cX4_freeCells 3 (some .int)) ∈ q_T := q_in 415 (by decide +kernel) (by decide +kernel)
theorem wd_416 : (Cond.methodLink RX4 103 yX4_crumbCells) ∈ q_T := q_in 416 (by decide +kernel) (by decide +kernel)
theorem wd_418 : (Cond.instanceMethod yX4_crumbCells) ∈ q_T := q_in 418 (by decide +kernel) (by decide +kernel)
theorem wd_419 : (Cond.code yX4_crumbCells cX4_crumbCells 3 (some .int)) ∈ q_T := q_in 419 (by decide +kernel) (by decide +kernel)
theorem wd_420 : (Cond.methodLinkNest RX4 139 yX0_isCrumb RX4) ∈ q_T := q_in 420 (by decide +kernel) (by decide +kernel)
theorem wd_422 : (Cond.instanceMethod yX0_isCrumb) ∈ q_T := q_in 422 (by decide +kernel) (by decide +kernel)
theorem wd_423 : (Cond.code yX0_isCrumb cX0_isCrumb 1 (some .boolean)) ∈ q_T := q_in 423 (by decide +kernel) (by decide +kernel)
theorem wd_424 : (Cond.methodLink RX4 106 yX4_usedPieces) ∈ q_T := q_in 424 (by decide +kernel) (by decide +kernel)
theorem wd_426 : (Cond.instanceMethod yX4_usedPieces) ∈ q_T := q_in 426 (by decide +kernel) (by decide +kernel)
theorem wd_427 : (Cond.code yX4_usedPieces cX4_usedPieces 3 (some .int)) ∈ q_T := q_in 427 (by decide +kernel) (by decide +kernel)
theorem wd_428 : (Cond.methodLink RX4 109 yX4_shelvedPieces) ∈ q_T := q_in 428 (by decide +kernel) (by decide +kernel)
theorem wd_430 : (Cond.instanceMethod yX4_shelvedPieces) ∈ q_T := q_in 430 (by decide +kernel) (by decide +kernel)
theorem wd_431 : (Cond.code yX4_shelvedPieces cX4_shelvedPieces 3 (some .int)) ∈ q_T := q_in 431 (by decide +kernel) (by decide +kernel)
theorem wd_432 : (Cond.methodLink RX4 112 yX4_crumbs) ∈ q_T := q_in 432 (by decide +kernel) (by decide +kernel)
theorem wd_434 : (Cond.instanceMethod yX4_crumbs) ∈ q_T := q_in 434 (by decide +kernel) (by decide +kernel)
theorem wd_435 : (Cond.code yX4_crumbs cX4_crumbs 3 (some .int)) ∈ q_T := q_in 435 (by decide +kernel) (by decide +kernel)
theorem wd_436 : (Cond.methodLink RX4 115 yX4_greatestFree) ∈ q_T := q_in 436 (by decide +kernel) (by decide +kernel)
theorem wd_438 : (Cond.instanceMethod yX4_greatestFree) ∈ q_T := q_in 438 (by decide +kernel) (by decide +kernel)
theorem wd_439 : (Cond.code yX4_greatestFree cX4_greatestFree 3 (some .int)) ∈ q_T := q_in 439 (by decide +kernel) (by decide +kernel)
theorem wd_441 : (Cond.classLink RL 37 RX5) ∈ q_T := q_in 441 (by decide +kernel) (by decide +kernel)
theorem wd_442 : (Cond.instantiable RX5 6) ∈ q_T := q_in 442 (by decide +kernel) (by decide +kernel)
theorem wd_443 : (Cond.methodLink RL 39 yX5_init) ∈ q_T := q_in 443 (by decide +kernel) (by decide +kernel)
theorem wd_444 : (Cond.instanceMethod yX5_init) ∈ q_T := q_in 444 (by decide +kernel) (by decide +kernel)
theorem wd_445 : (Cond.code yX5_init cX5_init 1 none) ∈ q_T := q_in 445 (by decide +kernel) (by decide +kernel)
theorem wd_446 : (Cond.methodLink RX5 1 objectInit) ∈ q_T := q_in 446 (by decide +kernel) (by decide +kernel)
theorem wd_447 : (Cond.fieldLink RX5 20 RX5 "thrown" "I") ∈ q_T := q_in 447 (by decide +kernel) (by decide +kernel)
theorem wd_448 : (Cond.fieldLink RX5 7 RX5 "cells" "I") ∈ q_T := q_in 448 (by decide +kernel) (by decide +kernel)
theorem wd_449 : (Cond.fieldLink RX5 13 RX5 "sizes" "[I") ∈ q_T := q_in 449 (by decide +kernel) (by decide +kernel)
theorem wd_450 : (Cond.fieldLink RX5 17 RX5 "times" "[I") ∈ q_T := q_in 450 (by decide +kernel) (by decide +kernel)
theorem wd_451 : (Cond.fieldLink RX5 23 RX5 "now" "I") ∈ q_T := q_in 451 (by decide +kernel) (by decide +kernel)
theorem wd_452 : (Cond.fieldLink RX5 30 RX5 "failures" "I") ∈ q_T := q_in 452 (by decide +kernel) (by decide +kernel)
theorem wd_467 : (Cond.methodLink RL 46 yX5_thrown) ∈ q_T := q_in 467 (by decide +kernel) (by decide +kernel)
theorem wd_468 : (Cond.instanceMethod yX5_thrown) ∈ q_T := q_in 468 (by decide +kernel) (by decide +kernel)
theorem wd_469 : (Cond.selects RX5 yX5_thrown yX5_thrown) ∈ q_T := q_in 469 (by decide +kernel) (by decide +kernel)
theorem wd_470 : (Cond.code yX5_thrown cX5_thrown 1 (some .int)) ∈ q_T := q_in 470 (by decide +kernel) (by decide +kernel)
theorem wd_471 : (Cond.methodLink RL 45 yX5_space) ∈ q_T := q_in 471 (by decide +kernel) (by decide +kernel)
theorem wd_472 : (Cond.instanceMethod yX5_space) ∈ q_T := q_in 472 (by decide +kernel) (by decide +kernel)
theorem wd_473 : (Cond.selects RX5 yX5_space yX5_space) ∈ q_T := q_in 473 (by decide +kernel) (by decide +kernel)
theorem wd_474 : (Cond.code yX5_space cX5_space 4 (some .int)) ∈ q_T := q_in 474 (by decide +kernel) (by decide +kernel)
theorem wd_475 : (Cond.methodLink RX5 26 yX5_goes) ∈ q_T := q_in 475 (by decide +kernel) (by decide +kernel)
theorem wd_477 : (Cond.instanceMethod yX5_goes) ∈ q_T := q_in 477 (by decide +kernel) (by decide +kernel)
theorem wd_478 : (Cond.code yX5_goes cX5_goes 2 (some .boolean)) ∈ q_T := q_in 478 (by decide +kernel) (by decide +kernel)
theorem wd_479 : (Cond.methodLink RX5 33 yX5_release) ∈ q_T := q_in 479 (by decide +kernel) (by decide +kernel)
theorem wd_481 : (Cond.instanceMethod yX5_release) ∈ q_T := q_in 481 (by decide +kernel) (by decide +kernel)
theorem wd_482 : (Cond.code yX5_release cX5_release 3 none) ∈ q_T := q_in 482 (by decide +kernel) (by decide +kernel)
theorem wd_483 : (Cond.methodLink RL 52 yX5_take) ∈ q_T := q_in 483 (by decide +kernel) (by decide +kernel)
theorem wd_484 : (Cond.instanceMethod yX5_take) ∈ q_T := q_in 484 (by decide +kernel) (by decide +kernel)
theorem wd_485 : (Cond.selects RX5 yX5_take yX5_take) ∈ q_T := q_in 485 (by decide +kernel) (by decide +kernel)
theorem wd_486 : (Cond.code yX5_take cX5_take 4 (some .int)) ∈ q_T := q_in 486 (by decide +kernel) (by decide +kernel)
theorem wd_487 : (Cond.methodLink RX5 41 yX5_sized) ∈ q_T := q_in 487 (by decide +kernel) (by decide +kernel)
theorem wd_488 : (Cond.static yX5_sized) ∈ q_T := q_in 488 (by decide +kernel) (by decide +kernel)
theorem wd_489 : (Cond.code yX5_sized cX5_sized 1 (some .boolean)) ∈ q_T := q_in 489 (by decide +kernel) (by decide +kernel)
theorem wd_490 : (Cond.methodLink RX5 45 yX5_best) ∈ q_T := q_in 490 (by decide +kernel) (by decide +kernel)
theorem wd_492 : (Cond.instanceMethod yX5_best) ∈ q_T := q_in 492 (by decide +kernel) (by decide +kernel)
theorem wd_493 : (Cond.code yX5_best cX5_best 6 (some .int)) ∈ q_T := q_in 493 (by decide +kernel) (by decide +kernel)
theorem wd_494 : (Cond.methodLink RX5 37 yX5_length) ∈ q_T := q_in 494 (by decide +kernel) (by decide +kernel)
theorem wd_496 : (Cond.instanceMethod yX5_length) ∈ q_T := q_in 496 (by decide +kernel) (by decide +kernel)
theorem wd_497 : (Cond.code yX5_length cX5_length 2 (some .int)) ∈ q_T := q_in 497 (by decide +kernel) (by decide +kernel)
theorem wd_498 : (Cond.methodLink RL 55 yX5_give) ∈ q_T := q_in 498 (by decide +kernel) (by decide +kernel)
theorem wd_499 : (Cond.instanceMethod yX5_give) ∈ q_T := q_in 499 (by decide +kernel) (by decide +kernel)
theorem wd_500 : (Cond.selects RX5 yX5_give yX5_give) ∈ q_T := q_in 500 (by decide +kernel) (by decide +kernel)
theorem wd_501 : (Cond.code yX5_give cX5_give 3 (some .int)) ∈ q_T := q_in 501 (by decide +kernel) (by decide +kernel)
theorem wd_502 : (Cond.methodLink RX5 48 yX5_known) ∈ q_T := q_in 502 (by decide +kernel) (by decide +kernel)
theorem wd_504 : (Cond.instanceMethod yX5_known) ∈ q_T := q_in 504 (by decide +kernel) (by decide +kernel)
theorem wd_505 : (Cond.code yX5_known cX5_known 2 (some .boolean)) ∈ q_T := q_in 505 (by decide +kernel) (by decide +kernel)
theorem wd_506 : (Cond.methodLink RL 58 yX5_join) ∈ q_T := q_in 506 (by decide +kernel) (by decide +kernel)
theorem wd_507 : (Cond.instanceMethod yX5_join) ∈ q_T := q_in 507 (by decide +kernel) (by decide +kernel)
theorem wd_508 : (Cond.selects RX5 yX5_join yX5_join) ∈ q_T := q_in 508 (by decide +kernel) (by decide +kernel)
theorem wd_509 : (Cond.code yX5_join cX5_join 3 (some .int)) ∈ q_T := q_in 509 (by decide +kernel) (by decide +kernel)
theorem wd_510 : (Cond.methodLink RX5 51 yX5_joined) ∈ q_T := q_in 510 (by decide +kernel) (by decide +kernel)
theorem wd_512 : (Cond.instanceMethod yX5_joined) ∈ q_T := q_in 512 (by decide +kernel) (by decide +kernel)
theorem wd_513 : (Cond.code yX5_joined cX5_joined 5 (some .int)) ∈ q_T := q_in 513 (by decide +kernel) (by decide +kernel)
theorem wd_514 : (Cond.methodLink RL 62 yX5_joinAll) ∈ q_T := q_in 514 (by decide +kernel) (by decide +kernel)
theorem wd_515 : (Cond.instanceMethod yX5_joinAll) ∈ q_T := q_in 515 (by decide +kernel) (by decide +kernel)
theorem wd_516 : (Cond.selects RX5 yX5_joinAll yX5_joinAll) ∈ q_T := q_in 516 (by decide +kernel) (by decide +kernel)
theorem wd_517 : (Cond.code yX5_joinAll cX5_joinAll 3 (some .int)) ∈ q_T := q_in 517 (by decide +kernel) (by decide +kernel)
theorem wd_518 : (Cond.methodLink RL 65 yX5_suffices) ∈ q_T := q_in 518 (by decide +kernel) (by decide +kernel)
theorem wd_519 : (Cond.instanceMethod yX5_suffices) ∈ q_T := q_in 519 (by decide +kernel) (by decide +kernel)
theorem wd_520 : (Cond.selects RX5 yX5_suffices yX5_suffices) ∈ q_T := q_in 520 (by decide +kernel) (by decide +kernel)
theorem wd_521 : (Cond.code yX5_suffices cX5_suffices 2 (some .int)) ∈ q_T := q_in 521 (by decide +kernel) (by decide +kernel)
theorem wd_522 : (Cond.methodLink RL 69 yX5_piece) ∈ q_T := q_in 522 (by decide +kernel) (by decide +kernel)
theorem wd_523 : (Cond.instanceMethod yX5_piece) ∈ q_T := q_in 523 (by decide +kernel) (by decide +kernel)
theorem wd_524 : (Cond.selects RX5 yX5_piece yX5_piece) ∈ q_T := q_in 524 (by decide +kernel) (by decide +kernel)
theorem wd_525 : (Cond.code yX5_piece cX5_piece 2 (some .int)) ∈ q_T := q_in 525 (by decide +kernel) (by decide +kernel)
theorem wd_526 : (Cond.methodLink RL 73 yX5_cover) ∈ q_T := q_in 526 (by decide +kernel) (by decide +kernel)
theorem wd_527 : (Cond.instanceMethod yX5_cover) ∈ q_T := q_in 527 (by decide +kernel) (by decide +kernel)
theorem wd_528 : (Cond.selects RX5 yX5_cover yX5_cover) ∈ q_T := q_in 528 (by decide +kernel) (by decide +kernel)
theorem wd_529 : (Cond.code yX5_cover cX5_cover 3 (some .int)) ∈ q_T := q_in 529 (by decide +kernel) (by decide +kernel)
theorem wd_530 : (Cond.methodLink RL 77 yX5_free) ∈ q_T := q_in 530 (by decide +kernel) (by decide +kernel)
theorem wd_531 : (Cond.instanceMethod yX5_free) ∈ q_T := q_in 531 (by decide +kernel) (by decide +kernel)
theorem wd_532 : (Cond.selects RX5 yX5_free yX5_free) ∈ q_T := q_in 532 (by decide +kernel) (by decide +kernel)
theorem wd_533 : (Cond.code yX5_free cX5_free 6 (some .int)) ∈ q_T := q_in 533 (by decide +kernel) (by decide +kernel)
theorem wd_534 : (Cond.methodLink RL 80 yX5_count) ∈ q_T := q_in 534 (by decide +kernel) (by decide +kernel)
theorem wd_535 : (Cond.instanceMethod yX5_count) ∈ q_T := q_in 535 (by decide +kernel) (by decide +kernel)
theorem wd_536 : (Cond.selects RX5 yX5_count yX5_count) ∈ q_T := q_in 536 (by decide +kernel) (by decide +kernel)
theorem wd_537 : (Cond.code yX5_count cX5_count 8 (some .int)) ∈ q_T := q_in 537 (by decide +kernel) (by decide +kernel)
theorem wd_538 : (Cond.methodLink RX5 54 yX5_greatest) ∈ q_T := q_in 538 (by decide +kernel) (by decide +kernel)
theorem wd_540 : (Cond.instanceMethod yX5_greatest) ∈ q_T := q_in 540 (by decide +kernel) (by decide +kernel)
theorem wd_541 : (Cond.code yX5_greatest cX5_greatest 3 (some .int)) ∈ q_T := q_in 541 (by decide +kernel) (by decide +kernel)
theorem wd_542 : (Cond.methodLink RL 84 yX5_faults) ∈ q_T := q_in 542 (by decide +kernel) (by decide +kernel)
theorem wd_543 : (Cond.instanceMethod yX5_faults) ∈ q_T := q_in 543 (by decide +kernel) (by decide +kernel)
theorem wd_544 : (Cond.selects RX5 yX5_faults yX5_faults) ∈ q_T := q_in 544 (by decide +kernel) (by decide +kernel)
theorem wd_545 : (Cond.code yX5_faults cX5_faults 1 (some .int)) ∈ q_T := q_in 545 (by decide +kernel) (by decide +kernel)
end
section
section QF
theorem qI_self (S : qS) (k a : Nat) (v : Int32) : (S.sI k a v).I k a = v := by show va_up S.I k (va_up (S.I k) a v) k a = v; rw [va_up_self, va_up_self]
theorem qR_self (S : qS) (k a : Nat) (v : Option Nat) : (S.sR k a v).R k a = v := by show va_up S.R k (va_up (S.R k) a v) k a = v; rw [va_up_self, va_up_self]
theorem qJ_self (S : qS) (k a : Nat) (v : Int64) : (S.sJ k a v).J k a = v := by show va_up S.J k (va_up (S.J k) a v) k a = v; rw [va_up_self, va_up_self]
theorem qI_of (S : qS) (k a : Nat) (v : Int32) {j : Nat} (h : j ≠ k) : (S.sI k a v).I j = S.I j := by show va_up S.I k (va_up (S.I k) a v) j = _; rw [va_up_ne _ _ h]
theorem qR_of (S : qS) (k a : Nat) (v : Option Nat) {j : Nat} (h : j ≠ k) : (S.sR k a v).R j = S.R j := by show va_up S.R k (va_up (S.R k) a v) j = _; rw [va_up_ne _ _ h]
theorem qJ_of (S : qS) (k a : Nat) (v : Int64) {j : Nat} (h : j ≠ k) : (S.sJ k a v).J j = S.J j := by show va_up S.J k (va_up (S.J k) a v) j = _; rw [va_up_ne _ _ h]
theorem qI_is (S : qS) (k a : Nat) (v : Int32) : (S.sI k a v).I k = va_up (S.I k) a v := by show va_up S.I k (va_up (S.I k) a v) k = _; rw [va_up_self]
theorem qR_is (S : qS) (k a : Nat) (v : Option Nat) : (S.sR k a v).R k = va_up (S.R k) a v := by show va_up S.R k (va_up (S.R k) a v) k = _; rw [va_up_self]
theorem qJ_is (S : qS) (k a : Nat) (v : Int64) : (S.sJ k a v).J k = va_up (S.J k) a v := by show va_up S.J k (va_up (S.J k) a v) k = _; rw [va_up_self]
theorem qI_ne (S : qS) (k a : Nat) (v : Int32) {b : Nat} (hb : b ≠ a) (j : Nat) : (S.sI k a v).I j b = S.I j b := by
  by_cases hj : j = k
  · subst hj; rw [qI_is, va_up_ne _ _ hb]
  · rw [qI_of _ _ _ _ hj]
theorem qR_ne (S : qS) (k a : Nat) (v : Option Nat) {b : Nat} (hb : b ≠ a) (j : Nat) : (S.sR k a v).R j b = S.R j b := by
  by_cases hj : j = k
  · subst hj; rw [qR_is, va_up_ne _ _ hb]
  · rw [qR_of _ _ _ _ hj]
theorem qJ_ne (S : qS) (k a : Nat) (v : Int64) {b : Nat} (hb : b ≠ a) (j : Nat) : (S.sJ k a v).J j b = S.J j b := by
  by_cases hj : j = k
  · subst hj; rw [qJ_is, va_up_ne _ _ hb]
  · rw [qJ_of _ _ _ _ hj]
theorem qF_sI_ne (cI cR : ClassId) (S : qS) (k a : Nat) (v : Int32) {b : Nat} (hb : b ≠ a) : qF cI cR (S.sI k a v) b = qF cI cR S b := by
  unfold qF; simp only [qI_ne S k a v hb]; rfl
theorem qF_sR_ne (cI cR : ClassId) (S : qS) (k a : Nat) (v : Option Nat) {b : Nat} (hb : b ≠ a) : qF cI cR (S.sR k a v) b = qF cI cR S b := by
  unfold qF; simp only [qR_ne S k a v hb]; rfl
theorem qF_sJ_ne (cI cR : ClassId) (S : qS) (k a : Nat) (v : Int64) {b : Nat} (hb : b ≠ a) : qF cI cR (S.sJ k a v) b = qF cI cR S b := by
  unfold qF; simp only [qJ_ne S k a v hb]; rfl
theorem qF_nO_ne (cI cR : ClassId) (S : qS) (q k : Nat) {b : Nat} (hb : b ≠ q) : qF cI cR (S.nO q k) b = qF cI cR S b := by
  have h1 : (S.nO q k).K b = S.K b := va_up_ne _ _ hb
  have h2 : ∀ j, (S.nO q k).I j b = S.I j b := fun j => va_up_ne _ _ hb
  have h3 : ∀ j, (S.nO q k).R j b = S.R j b := fun j => va_up_ne _ _ hb
  have h4 : ∀ j, (S.nO q k).J j b = S.J j b := fun j => va_up_ne _ _ hb
  unfold qF; simp only [h1, h2, h3, h4]; rfl
theorem q_set {A : Nat → Prop} (E : qE) {S S1 : qS} {a i : Nat} {x : va_E} (hL : S1.L = S.L) (hD : va_D A (q_w E S)) (h : a ∈ S.L) (hi : (q_w E S)[i]? = some (a, qF E.cI E.cR S a)) (hx : qF E.cI E.cR S1 a = x) (ho : ∀ b, b ≠ a → qF E.cI E.cR S1 b = qF E.cI E.cR S b) : (q_w E S).set i (a, x) = q_w E S1 := by
  have h1 := va_pl_set (e := x) hD h hi
  refine h1.trans ?_
  show E.X ++ va_pl S.L _ = E.X ++ va_pl S1.L _
  rw [hL]
  refine congrArg (fun l => E.X ++ l) (va_pl_congr fun b => ?_)
  by_cases hb : b = a
  · subst hb; rw [va_up_self, hx]
  · rw [va_up_ne _ _ hb, ho b hb]
theorem q_add (E : qE) {S S1 : qS} {q : Nat} {x : va_E} (hL : S1.L = S.L ++ [q]) (hq : q ∉ S.L) (hx : qF E.cI E.cR S1 q = x) (ho : ∀ b, b ≠ q → qF E.cI E.cR S1 b = qF E.cI E.cR S b) : q_w E S ++ [(q, x)] = q_w E S1 := by
  show (E.X ++ va_pl S.L _) ++ [(q, x)] = E.X ++ va_pl S1.L _
  rw [List.append_assoc, va_pl_push hq, hL]
  refine congrArg (fun l => E.X ++ l) (va_pl_congr fun b => ?_)
  by_cases hb : b = q
  · subst hb; rw [va_up_self, hx]
  · rw [va_up_ne _ _ hb, ho b hb]
theorem qF_0 (cI cR : ClassId) (S : qS) {a : Nat} (h : S.K a = 0) : qF cI cR S a = .inr (0, [.int (S.I 0 a), .int (S.I 1 a), .int (S.I 2 a), .long (S.J 0 a), va_rf (S.R 0 a), va_rf (S.R 1 a), .int (S.I 3 a)]) := by unfold qF; rw [h]; rfl
theorem q_g0 (E : qE) (S : qS) {a : Nat} (hL : a ∈ S.L) (h : S.K a = 0) : ∃ i : Nat, (q_w E S)[i]? = some (a, qF E.cI E.cR S a) ∧ (q_w E S)[i]? = some (a, .inr (0, [.int (S.I 0 a), .int (S.I 1 a), .int (S.I 2 a), .long (S.J 0 a), va_rf (S.R 0 a), va_rf (S.R 1 a), .int (S.I 3 a)])) := by
  obtain ⟨i, hi⟩ := va_pl_get (X := E.X) (f := qF E.cI E.cR S) hL
  exact ⟨i, hi, hi.trans (congrArg (fun e => some (a, e)) (qF_0 E.cI E.cR S h))⟩
theorem q_u0 : ∀ w ∈ u_ws RX0 TX0 7, w ∈ q_T := by decide +kernel
theorem qF_1 (cI cR : ClassId) (S : qS) {a : Nat} (h : S.K a = 1) : qF cI cR S a = .inr (1, [.int (S.I 4 a), va_rf (S.R 2 a), va_rf (S.R 3 a), va_rf (S.R 4 a)]) := by unfold qF; rw [h]; rfl
theorem q_g1 (E : qE) (S : qS) {a : Nat} (hL : a ∈ S.L) (h : S.K a = 1) : ∃ i : Nat, (q_w E S)[i]? = some (a, qF E.cI E.cR S a) ∧ (q_w E S)[i]? = some (a, .inr (1, [.int (S.I 4 a), va_rf (S.R 2 a), va_rf (S.R 3 a), va_rf (S.R 4 a)])) := by
  obtain ⟨i, hi⟩ := va_pl_get (X := E.X) (f := qF E.cI E.cR S) hL
  exact ⟨i, hi, hi.trans (congrArg (fun e => some (a, e)) (qF_1 E.cI E.cR S h))⟩
theorem q_u1 : ∀ w ∈ u_ws RX1 TX1 4, w ∈ q_T := by decide +kernel
theorem qF_2 (cI cR : ClassId) (S : qS) {a : Nat} (h : S.K a = 2) : qF cI cR S a = .inr (2, [va_rf (S.R 5 a), va_rf (S.R 6 a), .long (S.J 1 a)]) := by unfold qF; rw [h]; rfl
theorem q_g2 (E : qE) (S : qS) {a : Nat} (hL : a ∈ S.L) (h : S.K a = 2) : ∃ i : Nat, (q_w E S)[i]? = some (a, qF E.cI E.cR S a) ∧ (q_w E S)[i]? = some (a, .inr (2, [va_rf (S.R 5 a), va_rf (S.R 6 a), .long (S.J 1 a)])) := by
  obtain ⟨i, hi⟩ := va_pl_get (X := E.X) (f := qF E.cI E.cR S) hL
  exact ⟨i, hi, hi.trans (congrArg (fun e => some (a, e)) (qF_2 E.cI E.cR S h))⟩
theorem q_u2 : ∀ w ∈ u_ws RX2 TX2 3, w ∈ q_T := by decide +kernel
theorem qF_3 (cI cR : ClassId) (S : qS) {a : Nat} (h : S.K a = 3) : qF cI cR S a = .inr (3, [va_rf (S.R 7 a)]) := by unfold qF; rw [h]; rfl
theorem q_g3 (E : qE) (S : qS) {a : Nat} (hL : a ∈ S.L) (h : S.K a = 3) : ∃ i : Nat, (q_w E S)[i]? = some (a, qF E.cI E.cR S a) ∧ (q_w E S)[i]? = some (a, .inr (3, [va_rf (S.R 7 a)])) := by
  obtain ⟨i, hi⟩ := va_pl_get (X := E.X) (f := qF E.cI E.cR S) hL
  exact ⟨i, hi, hi.trans (congrArg (fun e => some (a, e)) (qF_3 E.cI E.cR S h))⟩
theorem q_u3 : ∀ w ∈ u_ws RX3 TX3 1, w ∈ q_T := by decide +kernel
theorem qF_4 (cI cR : ClassId) (S : qS) {a : Nat} (h : S.K a = 4) : qF cI cR S a = .inr (4, [va_rf (S.R 8 a), va_rf (S.R 9 a), .int (S.I 5 a), .int (S.I 6 a)]) := by unfold qF; rw [h]; rfl
theorem q_g4 (E : qE) (S : qS) {a : Nat} (hL : a ∈ S.L) (h : S.K a = 4) : ∃ i : Nat, (q_w E S)[i]? = some (a, qF E.cI E.cR S a) ∧ (q_w E S)[i]? = some (a, .inr (4, [va_rf (S.R 8 a), va_rf (S.R 9 a), .int (S.I 5 a), .int (S.I 6 a)])) := by
  obtain ⟨i, hi⟩ := va_pl_get (X := E.X) (f := qF E.cI E.cR S) hL
  exact ⟨i, hi, hi.trans (congrArg (fun e => some (a, e)) (qF_4 E.cI E.cR S h))⟩
theorem q_u4 : ∀ w ∈ u_ws RX4 TX4 4, w ∈ q_T := by decide +kernel
theorem qF_5 (cI cR : ClassId) (S : qS) {a : Nat} (h : S.K a = 5) : qF cI cR S a = .inr (5, [.int (S.I 7 a), .int (S.I 8 a), va_rf (S.R 10 a), va_rf (S.R 11 a), .int (S.I 9 a), .int (S.I 10 a)]) := by unfold qF; rw [h]; rfl
theorem q_g5 (E : qE) (S : qS) {a : Nat} (hL : a ∈ S.L) (h : S.K a = 5) : ∃ i : Nat, (q_w E S)[i]? = some (a, qF E.cI E.cR S a) ∧ (q_w E S)[i]? = some (a, .inr (5, [.int (S.I 7 a), .int (S.I 8 a), va_rf (S.R 10 a), va_rf (S.R 11 a), .int (S.I 9 a), .int (S.I 10 a)])) := by
  obtain ⟨i, hi⟩ := va_pl_get (X := E.X) (f := qF E.cI E.cR S) hL
  exact ⟨i, hi, hi.trans (congrArg (fun e => some (a, e)) (qF_5 E.cI E.cR S h))⟩
theorem q_u5 : ∀ w ∈ u_ws RX5 TX5 6, w ∈ q_T := by decide +kernel
variable {p : Program} {l : Launch} {e : Env} {R : Room} {s : State} {m : MethodId} {args : Array Value} {below : List Frame} {meth : Method} {c : Code} {H : Heap} {locs : List Loc} {cells slots : Nat} {Q : State → Prop}
variable {cc : ByteArray} {nL pc : Nat} {ls : Array Slot} {rest : List Value} {own : String} {E : qE} {S : qS} {a : Nat}
theorem q_get (C : CallFix p m c cc nL s args q_T own) (hV : q_V E s S H locs) {Cn : String} {T : u_T} {N ci k index : Nat} {fs : List Value} {v : Value} (hin : ∀ w ∈ u_ws Cn T N, w ∈ q_T) (he : ∃ i : Nat, (q_w E S)[i]? = some (a, .inr (ci, fs))) (hc : vwCl[ci]? = some (Cn, T, N)) (hk : k < N)
    (hl : Cond.fieldLink own index (T k).1 (T k).2.1 (T k).2.2.1 ∈ q_T ∨ ∃ host, Cond.fieldLinkNest own index (T k).1 (T k).2.1 (T k).2.2.1 host ∈ q_T) (hv : fs[k]? = some v) (hdg : decode cc pc = .ok (.getfield index, 3))
    (kk : W p l e R s m args below meth c H locs cells slots Q (F0 m (pc + 3) ls (v :: rest))) : W p l e R s m args below meth c H locs cells slots Q (F0 m pc ls (.ref a :: rest)) := by
  obtain ⟨hx, hb, -, hown, hts⟩ := C
  obtain ⟨hK, -, hP, -⟩ := hV
  obtain ⟨i, he⟩ := he
  rcases hl with hl | ⟨host, hl⟩
  · exact va_get hx hb hts hin hown hK.1 hP i he hc k hk (hts _ hl) (fun _ h => h) hv hdg kk
  · exact va_getN hx hb hts hin hown hK.1 hP i he hc k hk (hts _ hl) (fun _ h => h) hv hdg kk
theorem q_put (C : CallFix p m c cc nL s args q_T own) (hV : q_V E s S H locs) {Cn : String} {T : u_T} {N ci k index i : Nat} {fs : List Value} {v : Value} {S1 : qS} (hin : ∀ w ∈ u_ws Cn T N, w ∈ q_T) (ty0 : Nat → FieldType) (hty : ∀ k, k < N → parseFieldDescriptor (T k).2.2.1 = some (ty0 k)) (hnm : ∀ a, a < N → ∀ b, b < N → a ≠ b → (T a).2.1 ≠ (T b).2.1) (he : (q_w E S)[i]? = some (a, .inr (ci, fs))) (hc : vwCl[ci]? = some (Cn, T, N)) (hk : k < N)
    (hl : Cond.fieldLink own index (T k).1 (T k).2.1 (T k).2.2.1 ∈ q_T ∨ ∃ host, Cond.fieldLinkNest own index (T k).1 (T k).2.1 (T k).2.2.1 host ∈ q_T) (hfin : (T k).2.2.2 = false) (hn : narrow (ty0 k) v = v) (hfit : fits (ty0 k) v = true) (hlen : k < fs.length) (hS1 : (q_w E S).set i (a, .inr (ci, fs.set k v)) = q_w E S1) (hdg : decode cc pc = .ok (.putfield index, 3))
    (kk : ∀ (H1 : Heap) (locs1 : List Loc), q_V E s S1 H1 locs1 → W p l e R s m args below meth c H1 locs1 cells slots Q (F0 m (pc + 3) ls rest)) : W p l e R s m args below meth c H locs cells slots Q (F0 m pc ls (v :: .ref a :: rest)) := by
  obtain ⟨hx, hb, -, hown, hts⟩ := C
  obtain ⟨hK, hZ, hP, hD, hS, hA⟩ := hV
  rcases hl with hl | ⟨host, hl⟩
  · exact va_put hx hb hts hin ty0 hty hnm hown hK.1 hP hD hS i he hc k hk (hts _ hl) (fun _ h => h) hfin (hty k hk) hn hfit hlen hdg fun H1 locs1 g1 g2 g3 => kk H1 locs1 (by rw [hS1] at g1 g2; exact ⟨hK, hZ, g1, g2, g3, hA⟩)
  · exact va_putN hx hb hts hin ty0 hty hnm hown hK.1 hP hD hS i he hc k hk (hts _ hl) (fun _ h => h) hfin (hty k hk) hn hfit hlen hdg fun H1 locs1 g1 g2 g3 => kk H1 locs1 (by rw [hS1] at g1 g2; exact ⟨hK, hZ, g1, g2, g3, hA⟩)
theorem q_putF (C : CallFix p m c cc nL s args q_T own) (hV : q_V E s S H locs) (hin2 : meth.name = "<init>") {Cn : String} {T : u_T} {N ci k index i : Nat} {fs : List Value} {v : Value} {S1 : qS} (hin : ∀ w ∈ u_ws Cn T N, w ∈ q_T) (ty0 : Nat → FieldType) (hty : ∀ k, k < N → parseFieldDescriptor (T k).2.2.1 = some (ty0 k)) (hnm : ∀ a, a < N → ∀ b, b < N → a ≠ b → (T a).2.1 ≠ (T b).2.1) (he : (q_w E S)[i]? = some (a, .inr (ci, fs))) (hc : vwCl[ci]? = some (Cn, T, N)) (hk : k < N)
    (hl : Cond.fieldLink own index (T k).1 (T k).2.1 (T k).2.2.1 ∈ q_T) (hfin : (T k).2.2.2 = true) (hdecl : (T k).1 = own) (hn : narrow (ty0 k) v = v) (hfit : fits (ty0 k) v = true) (hlen : k < fs.length) (hS1 : (q_w E S).set i (a, .inr (ci, fs.set k v)) = q_w E S1) (hdg : decode cc pc = .ok (.putfield index, 3))
    (kk : ∀ (H1 : Heap) (locs1 : List Loc), q_V E s S1 H1 locs1 → W p l e R s m args below meth c H1 locs1 cells slots Q (F0 m (pc + 3) ls rest)) : W p l e R s m args below meth c H locs cells slots Q (F0 m pc ls (v :: .ref a :: rest)) := by
  obtain ⟨hx, hb, -, hown, hts⟩ := C
  obtain ⟨hK, hZ, hP, hD, hS, hA⟩ := hV
  exact va_putF hx hb hts hin ty0 hty hnm hown hK.1 hP hD hS i he hc k hk (hts _ hl) (fun _ h => h) hfin hin2 hdecl (hty k hk) hn hfit hlen hdg fun H1 locs1 g1 g2 g3 => kk H1 locs1 (by rw [hS1] at g1 g2; exact ⟨hK, hZ, g1, g2, g3, hA⟩)
theorem q_new (C : CallFix p m c cc nL s args q_T own) (hV : q_V E s S H locs) {Cn : String} {T : u_T} {N ci index : Nat} {fs : List Value} (hin : ∀ w ∈ u_ws Cn T N, w ∈ q_T) (ty0 : Nat → FieldType) (hty : ∀ k, k < N → parseFieldDescriptor (T k).2.2.1 = some (ty0 k)) (hcl : Cond.classLink own index Cn ∈ q_T) (hins : Cond.instantiable Cn N ∈ q_T) (hini : Cond.initialized Cn ∈ q_T) (hc : vwCl[ci]? = some (Cn, T, N)) (hfs : ∀ j, j < N → defaultValue (ty0 j) = vp_V fs j)
    (hw : ∀ q, q ∉ S.L → q_w E S ++ [(q, .inr (ci, fs))] = q_w E (S.nO q ci)) (hcells : cells + 1 ≤ R.cells) (hslots : slots + N ≤ R.slots) (hdg : decode cc pc = .ok (.new index, 3))
    (kk : ∀ (q : Nat) (H1 : Heap), q ∉ S.L → q_V E s (S.nO q ci) H1 locs → W p l e R s m args below meth c H1 locs (cells + 1) (slots + N) Q (F0 m (pc + 3) ls (.ref q :: rest))) : W p l e R s m args below meth c H locs cells slots Q (F0 m pc ls rest) := by
  obtain ⟨hx, hb, -, hown, hts⟩ := C
  obtain ⟨hK, hZ, hP, hD, hS, hA⟩ := hV
  refine va_new hx hb hts hin ty0 hty hown (hts _ hcl) (hts _ hins) (hts _ hini) hK.1 hP hD hS hA hc hfs hcells hslots hdg fun q H1 g1 g2 g3 => ?_
  have hq : q ∉ S.L := va_pl_fresh2 g2
  rw [hw q hq] at g1 g2
  exact kk q H1 hq ⟨hK, hZ, g1, g2, g3, hA⟩
theorem g_Piece_at (C : CallFix p m c cc nL s args q_T own) (hV : q_V E s S H locs) (hL : a ∈ S.L) (hK : S.K a = 0) {index : Nat} (hl : Cond.fieldLink own index (TX0 0).1 (TX0 0).2.1 (TX0 0).2.2.1 ∈ q_T ∨ ∃ host, Cond.fieldLinkNest own index (TX0 0).1 (TX0 0).2.1 (TX0 0).2.2.1 host ∈ q_T) (hdg : decode cc pc = .ok (.getfield index, 3))
    (kk : W p l e R s m args below meth c H locs cells slots Q (F0 m (pc + 3) ls (.int (S.I 0 a) :: rest))) : W p l e R s m args below meth c H locs cells slots Q (F0 m pc ls (.ref a :: rest)) := by
  obtain ⟨i, -, hi⟩ := q_g0 E S hL hK
  exact q_get (T := TX0) (k := 0) C hV q_u0 ⟨i, hi⟩ rfl (by decide) hl rfl hdg kk
theorem p_Piece_at (C : CallFix p m c cc nL s args q_T own) (hV : q_V E s S H locs) (hin2 : meth.name = "<init>") (hL : a ∈ S.L) (hK : S.K a = 0) {v : Int32} {index : Nat} (hl : Cond.fieldLink own index (TX0 0).1 (TX0 0).2.1 (TX0 0).2.2.1 ∈ q_T) (hdecl : (TX0 0).1 = own) (hdg : decode cc pc = .ok (.putfield index, 3))
    (kk : ∀ (H1 : Heap) (locs1 : List Loc), q_V E s (S.sI 0 a v) H1 locs1 → W p l e R s m args below meth c H1 locs1 cells slots Q (F0 m (pc + 3) ls rest)) : W p l e R s m args below meth c H locs cells slots Q (F0 m pc ls (.int v :: .ref a :: rest)) := by
  obtain ⟨i, hi0, hi⟩ := q_g0 E S hL hK
  have hK1 : (S.sI 0 a v).K a = 0 := hK
  refine q_putF (T := TX0) (k := 0) (S1 := S.sI 0 a v) C hV hin2 q_u0 tyX0 tyX0_ok nmX0 hi rfl (by decide) hl rfl hdecl (rfl) (rfl) (Nat.le_of_ble_eq_true rfl) (q_set E rfl hV.2.2.2.1 hL hi0 ?_ (fun b hb => qF_sI_ne _ _ _ _ _ _ hb)) hdg kk
  rw [qF_0 _ _ _ hK1]
  simp only [qI_self]
  rfl
theorem g_Piece_cells (C : CallFix p m c cc nL s args q_T own) (hV : q_V E s S H locs) (hL : a ∈ S.L) (hK : S.K a = 0) {index : Nat} (hl : Cond.fieldLink own index (TX0 1).1 (TX0 1).2.1 (TX0 1).2.2.1 ∈ q_T ∨ ∃ host, Cond.fieldLinkNest own index (TX0 1).1 (TX0 1).2.1 (TX0 1).2.2.1 host ∈ q_T) (hdg : decode cc pc = .ok (.getfield index, 3))
    (kk : W p l e R s m args below meth c H locs cells slots Q (F0 m (pc + 3) ls (.int (S.I 1 a) :: rest))) : W p l e R s m args below meth c H locs cells slots Q (F0 m pc ls (.ref a :: rest)) := by
  obtain ⟨i, -, hi⟩ := q_g0 E S hL hK
  exact q_get (T := TX0) (k := 1) C hV q_u0 ⟨i, hi⟩ rfl (by decide) hl rfl hdg kk
theorem p_Piece_cells (C : CallFix p m c cc nL s args q_T own) (hV : q_V E s S H locs) (hL : a ∈ S.L) (hK : S.K a = 0) {v : Int32} {index : Nat} (hl : Cond.fieldLink own index (TX0 1).1 (TX0 1).2.1 (TX0 1).2.2.1 ∈ q_T ∨ ∃ host, Cond.fieldLinkNest own index (TX0 1).1 (TX0 1).2.1 (TX0 1).2.2.1 host ∈ q_T) (hdg : decode cc pc = .ok (.putfield index, 3))
    (kk : ∀ (H1 : Heap) (locs1 : List Loc), q_V E s (S.sI 1 a v) H1 locs1 → W p l e R s m args below meth c H1 locs1 cells slots Q (F0 m (pc + 3) ls rest)) : W p l e R s m args below meth c H locs cells slots Q (F0 m pc ls (.int v :: .ref a :: rest)) := by
  obtain ⟨i, hi0, hi⟩ := q_g0 E S hL hK
  have hK1 : (S.sI 1 a v).K a = 0 := hK
  refine q_put (T := TX0) (k := 1) (S1 := S.sI 1 a v) C hV q_u0 tyX0 tyX0_ok nmX0 hi rfl (by decide) hl rfl (rfl) (rfl) (Nat.le_of_ble_eq_true rfl) (q_set E rfl hV.2.2.2.1 hL hi0 ?_ (fun b hb => qF_sI_ne _ _ _ _ _ _ hb)) hdg kk
  rw [qF_0 _ _ _ hK1]
  simp only [qI_self]
  rfl
theorem g_Piece_isFree (C : CallFix p m c cc nL s args q_T own) (hV : q_V E s S H locs) (hL : a ∈ S.L) (hK : S.K a = 0) {index : Nat} (hl : Cond.fieldLink own index (TX0 2).1 (TX0 2).2.1 (TX0 2).2.2.1 ∈ q_T ∨ ∃ host, Cond.fieldLinkNest own index (TX0 2).1 (TX0 2).2.1 (TX0 2).2.2.1 host ∈ q_T) (hdg : decode cc pc = .ok (.getfield index, 3))
    (kk : W p l e R s m args below meth c H locs cells slots Q (F0 m (pc + 3) ls (.int (S.I 2 a) :: rest))) : W p l e R s m args below meth c H locs cells slots Q (F0 m pc ls (.ref a :: rest)) := by
  obtain ⟨i, -, hi⟩ := q_g0 E S hL hK
  exact q_get (T := TX0) (k := 2) C hV q_u0 ⟨i, hi⟩ rfl (by decide) hl rfl hdg kk
theorem p_Piece_isFree (C : CallFix p m c cc nL s args q_T own) (hV : q_V E s S H locs) (hL : a ∈ S.L) (hK : S.K a = 0) {v : Int32} (hbool : v = 0 ∨ v = 1) {index : Nat} (hl : Cond.fieldLink own index (TX0 2).1 (TX0 2).2.1 (TX0 2).2.2.1 ∈ q_T ∨ ∃ host, Cond.fieldLinkNest own index (TX0 2).1 (TX0 2).2.1 (TX0 2).2.2.1 host ∈ q_T) (hdg : decode cc pc = .ok (.putfield index, 3))
    (kk : ∀ (H1 : Heap) (locs1 : List Loc), q_V E s (S.sI 2 a v) H1 locs1 → W p l e R s m args below meth c H1 locs1 cells slots Q (F0 m (pc + 3) ls rest)) : W p l e R s m args below meth c H locs cells slots Q (F0 m pc ls (.int v :: .ref a :: rest)) := by
  obtain ⟨i, hi0, hi⟩ := q_g0 E S hL hK
  have hK1 : (S.sI 2 a v).K a = 0 := hK
  refine q_put (T := TX0) (k := 2) (S1 := S.sI 2 a v) C hV q_u0 tyX0 tyX0_ok nmX0 hi rfl (by decide) hl rfl (by rcases hbool with h | h <;> subst h <;> rfl) (by rcases hbool with h | h <;> subst h <;> rfl) (Nat.le_of_ble_eq_true rfl) (q_set E rfl hV.2.2.2.1 hL hi0 ?_ (fun b hb => qF_sI_ne _ _ _ _ _ _ hb)) hdg kk
  rw [qF_0 _ _ _ hK1]
  simp only [qI_self]
  rfl
theorem g_Piece_since (C : CallFix p m c cc nL s args q_T own) (hV : q_V E s S H locs) (hL : a ∈ S.L) (hK : S.K a = 0) {index : Nat} (hl : Cond.fieldLink own index (TX0 3).1 (TX0 3).2.1 (TX0 3).2.2.1 ∈ q_T ∨ ∃ host, Cond.fieldLinkNest own index (TX0 3).1 (TX0 3).2.1 (TX0 3).2.2.1 host ∈ q_T) (hdg : decode cc pc = .ok (.getfield index, 3))
    (kk : W p l e R s m args below meth c H locs cells slots Q (F0 m (pc + 3) ls (.long (S.J 0 a) :: rest))) : W p l e R s m args below meth c H locs cells slots Q (F0 m pc ls (.ref a :: rest)) := by
  obtain ⟨i, -, hi⟩ := q_g0 E S hL hK
  exact q_get (T := TX0) (k := 3) C hV q_u0 ⟨i, hi⟩ rfl (by decide) hl rfl hdg kk
theorem p_Piece_since (C : CallFix p m c cc nL s args q_T own) (hV : q_V E s S H locs) (hL : a ∈ S.L) (hK : S.K a = 0) {v : Int64} {index : Nat} (hl : Cond.fieldLink own index (TX0 3).1 (TX0 3).2.1 (TX0 3).2.2.1 ∈ q_T ∨ ∃ host, Cond.fieldLinkNest own index (TX0 3).1 (TX0 3).2.1 (TX0 3).2.2.1 host ∈ q_T) (hdg : decode cc pc = .ok (.putfield index, 3))
    (kk : ∀ (H1 : Heap) (locs1 : List Loc), q_V E s (S.sJ 0 a v) H1 locs1 → W p l e R s m args below meth c H1 locs1 cells slots Q (F0 m (pc + 3) ls rest)) : W p l e R s m args below meth c H locs cells slots Q (F0 m pc ls (.long v :: .ref a :: rest)) := by
  obtain ⟨i, hi0, hi⟩ := q_g0 E S hL hK
  have hK1 : (S.sJ 0 a v).K a = 0 := hK
  refine q_put (T := TX0) (k := 3) (S1 := S.sJ 0 a v) C hV q_u0 tyX0 tyX0_ok nmX0 hi rfl (by decide) hl rfl (rfl) (rfl) (Nat.le_of_ble_eq_true rfl) (q_set E rfl hV.2.2.2.1 hL hi0 ?_ (fun b hb => qF_sJ_ne _ _ _ _ _ _ hb)) hdg kk
  rw [qF_0 _ _ _ hK1]
  simp only [qJ_self]
  rfl
theorem g_Piece_behind (C : CallFix p m c cc nL s args q_T own) (hV : q_V E s S H locs) (hL : a ∈ S.L) (hK : S.K a = 0) {index : Nat} (hl : Cond.fieldLink own index (TX0 4).1 (TX0 4).2.1 (TX0 4).2.2.1 ∈ q_T ∨ ∃ host, Cond.fieldLinkNest own index (TX0 4).1 (TX0 4).2.1 (TX0 4).2.2.1 host ∈ q_T) (hdg : decode cc pc = .ok (.getfield index, 3))
    (kk : W p l e R s m args below meth c H locs cells slots Q (F0 m (pc + 3) ls (va_rf (S.R 0 a) :: rest))) : W p l e R s m args below meth c H locs cells slots Q (F0 m pc ls (.ref a :: rest)) := by
  obtain ⟨i, -, hi⟩ := q_g0 E S hL hK
  exact q_get (T := TX0) (k := 4) C hV q_u0 ⟨i, hi⟩ rfl (by decide) hl rfl hdg kk
theorem p_Piece_behind (C : CallFix p m c cc nL s args q_T own) (hV : q_V E s S H locs) (hL : a ∈ S.L) (hK : S.K a = 0) {v : Option Nat} {index : Nat} (hl : Cond.fieldLink own index (TX0 4).1 (TX0 4).2.1 (TX0 4).2.2.1 ∈ q_T ∨ ∃ host, Cond.fieldLinkNest own index (TX0 4).1 (TX0 4).2.1 (TX0 4).2.2.1 host ∈ q_T) (hdg : decode cc pc = .ok (.putfield index, 3))
    (kk : ∀ (H1 : Heap) (locs1 : List Loc), q_V E s (S.sR 0 a v) H1 locs1 → W p l e R s m args below meth c H1 locs1 cells slots Q (F0 m (pc + 3) ls rest)) : W p l e R s m args below meth c H locs cells slots Q (F0 m pc ls (va_rf v :: .ref a :: rest)) := by
  obtain ⟨i, hi0, hi⟩ := q_g0 E S hL hK
  have hK1 : (S.sR 0 a v).K a = 0 := hK
  refine q_put (T := TX0) (k := 4) (S1 := S.sR 0 a v) C hV q_u0 tyX0 tyX0_ok nmX0 hi rfl (by decide) hl rfl (by cases v <;> rfl) (by cases v <;> rfl) (Nat.le_of_ble_eq_true rfl) (q_set E rfl hV.2.2.2.1 hL hi0 ?_ (fun b hb => qF_sR_ne _ _ _ _ _ _ hb)) hdg kk
  rw [qF_0 _ _ _ hK1]
  simp only [qR_self]
  rfl
theorem g_Piece_older (C : CallFix p m c cc nL s args q_T own) (hV : q_V E s S H locs) (hL : a ∈ S.L) (hK : S.K a = 0) {index : Nat} (hl : Cond.fieldLink own index (TX0 5).1 (TX0 5).2.1 (TX0 5).2.2.1 ∈ q_T ∨ ∃ host, Cond.fieldLinkNest own index (TX0 5).1 (TX0 5).2.1 (TX0 5).2.2.1 host ∈ q_T) (hdg : decode cc pc = .ok (.getfield index, 3))
    (kk : W p l e R s m args below meth c H locs cells slots Q (F0 m (pc + 3) ls (va_rf (S.R 1 a) :: rest))) : W p l e R s m args below meth c H locs cells slots Q (F0 m pc ls (.ref a :: rest)) := by
  obtain ⟨i, -, hi⟩ := q_g0 E S hL hK
  exact q_get (T := TX0) (k := 5) C hV q_u0 ⟨i, hi⟩ rfl (by decide) hl rfl hdg kk
theorem p_Piece_older (C : CallFix p m c cc nL s args q_T own) (hV : q_V E s S H locs) (hL : a ∈ S.L) (hK : S.K a = 0) {v : Option Nat} {index : Nat} (hl : Cond.fieldLink own index (TX0 5).1 (TX0 5).2.1 (TX0 5).2.2.1 ∈ q_T ∨ ∃ host, Cond.fieldLinkNest own index (TX0 5).1 (TX0 5).2.1 (TX0 5).2.2.1 host ∈ q_T) (hdg : decode cc pc = .ok (.putfield index, 3))
    (kk : ∀ (H1 : Heap) (locs1 : List Loc), q_V E s (S.sR 1 a v) H1 locs1 → W p l e R s m args below meth c H1 locs1 cells slots Q (F0 m (pc + 3) ls rest)) : W p l e R s m args below meth c H locs cells slots Q (F0 m pc ls (va_rf v :: .ref a :: rest)) := by
  obtain ⟨i, hi0, hi⟩ := q_g0 E S hL hK
  have hK1 : (S.sR 1 a v).K a = 0 := hK
  refine q_put (T := TX0) (k := 5) (S1 := S.sR 1 a v) C hV q_u0 tyX0 tyX0_ok nmX0 hi rfl (by decide) hl rfl (by cases v <;> rfl) (by cases v <;> rfl) (Nat.le_of_ble_eq_true rfl) (q_set E rfl hV.2.2.2.1 hL hi0 ?_ (fun b hb => qF_sR_ne _ _ _ _ _ _ hb)) hdg kk
  rw [qF_0 _ _ _ hK1]
  simp only [qR_self]
  rfl
theorem g_Piece_awaited (C : CallFix p m c cc nL s args q_T own) (hV : q_V E s S H locs) (hL : a ∈ S.L) (hK : S.K a = 0) {index : Nat} (hl : Cond.fieldLink own index (TX0 6).1 (TX0 6).2.1 (TX0 6).2.2.1 ∈ q_T ∨ ∃ host, Cond.fieldLinkNest own index (TX0 6).1 (TX0 6).2.1 (TX0 6).2.2.1 host ∈ q_T) (hdg : decode cc pc = .ok (.getfield index, 3))
    (kk : W p l e R s m args below meth c H locs cells slots Q (F0 m (pc + 3) ls (.int (S.I 3 a) :: rest))) : W p l e R s m args below meth c H locs cells slots Q (F0 m pc ls (.ref a :: rest)) := by
  obtain ⟨i, -, hi⟩ := q_g0 E S hL hK
  exact q_get (T := TX0) (k := 6) C hV q_u0 ⟨i, hi⟩ rfl (by decide) hl rfl hdg kk
theorem p_Piece_awaited (C : CallFix p m c cc nL s args q_T own) (hV : q_V E s S H locs) (hL : a ∈ S.L) (hK : S.K a = 0) {v : Int32} (hbool : v = 0 ∨ v = 1) {index : Nat} (hl : Cond.fieldLink own index (TX0 6).1 (TX0 6).2.1 (TX0 6).2.2.1 ∈ q_T ∨ ∃ host, Cond.fieldLinkNest own index (TX0 6).1 (TX0 6).2.1 (TX0 6).2.2.1 host ∈ q_T) (hdg : decode cc pc = .ok (.putfield index, 3))
    (kk : ∀ (H1 : Heap) (locs1 : List Loc), q_V E s (S.sI 3 a v) H1 locs1 → W p l e R s m args below meth c H1 locs1 cells slots Q (F0 m (pc + 3) ls rest)) : W p l e R s m args below meth c H locs cells slots Q (F0 m pc ls (.int v :: .ref a :: rest)) := by
  obtain ⟨i, hi0, hi⟩ := q_g0 E S hL hK
  have hK1 : (S.sI 3 a v).K a = 0 := hK
  refine q_put (T := TX0) (k := 6) (S1 := S.sI 3 a v) C hV q_u0 tyX0 tyX0_ok nmX0 hi rfl (by decide) hl rfl (by rcases hbool with h | h <;> subst h <;> rfl) (by rcases hbool with h | h <;> subst h <;> rfl) (Nat.le_of_ble_eq_true rfl) (q_set E rfl hV.2.2.2.1 hL hi0 ?_ (fun b hb => qF_sI_ne _ _ _ _ _ _ hb)) hdg kk
  rw [qF_0 _ _ _ hK1]
  simp only [qI_self]
  rfl
theorem n_Piece (C : CallFix p m c cc nL s args q_T own) (hV : q_V E s S H locs) {index : Nat} (hcl : Cond.classLink own index RX0 ∈ q_T) (hcells : cells + 1 ≤ R.cells) (hslots : slots + 7 ≤ R.slots) (hdg : decode cc pc = .ok (.new index, 3))
    (kk : ∀ (q : Nat) (H1 : Heap), q ∉ S.L → q_V E s (S.nO q 0) H1 locs → W p l e R s m args below meth c H1 locs (cells + 1) (slots + 7) Q (F0 m (pc + 3) ls (.ref q :: rest))) : W p l e R s m args below meth c H locs cells slots Q (F0 m pc ls rest) := by
  refine q_new (T := TX0) (N := 7) (fs := [.int 0, .int 0, .int 0, .long 0, .null, .null, .int 0]) C hV q_u0 tyX0 tyX0_ok hcl wd_116 wd_41 rfl (fun j hj => ?_) (fun q hq => q_add E rfl hq ?_ (fun b hb => qF_nO_ne _ _ _ _ _ hb)) hcells hslots hdg kk
  · rcases (show j = 0 ∨ j = 1 ∨ j = 2 ∨ j = 3 ∨ j = 4 ∨ j = 5 ∨ j = 6 by omega) with rfl | rfl | rfl | rfl | rfl | rfl | rfl <;> rfl
  · have hK1 : (S.nO q 0).K q = 0 := va_up_self _ _ _
    have h2 : ∀ j, (S.nO q 0).I j q = 0 := fun j => va_up_self _ _ _
    have h3 : ∀ j, (S.nO q 0).R j q = none := fun j => va_up_self _ _ _
    have h4 : ∀ j, (S.nO q 0).J j q = 0 := fun j => va_up_self _ _ _
    rw [qF_0 _ _ _ hK1]
    simp only [h2, h3, h4]
    rfl
theorem g_Row_cells (C : CallFix p m c cc nL s args q_T own) (hV : q_V E s S H locs) (hL : a ∈ S.L) (hK : S.K a = 1) {index : Nat} (hl : Cond.fieldLink own index (TX1 0).1 (TX1 0).2.1 (TX1 0).2.2.1 ∈ q_T ∨ ∃ host, Cond.fieldLinkNest own index (TX1 0).1 (TX1 0).2.1 (TX1 0).2.2.1 host ∈ q_T) (hdg : decode cc pc = .ok (.getfield index, 3))
    (kk : W p l e R s m args below meth c H locs cells slots Q (F0 m (pc + 3) ls (.int (S.I 4 a) :: rest))) : W p l e R s m args below meth c H locs cells slots Q (F0 m pc ls (.ref a :: rest)) := by
  obtain ⟨i, -, hi⟩ := q_g1 E S hL hK
  exact q_get (T := TX1) (k := 0) C hV q_u1 ⟨i, hi⟩ rfl (by decide) hl rfl hdg kk
theorem p_Row_cells (C : CallFix p m c cc nL s args q_T own) (hV : q_V E s S H locs) (hin2 : meth.name = "<init>") (hL : a ∈ S.L) (hK : S.K a = 1) {v : Int32} {index : Nat} (hl : Cond.fieldLink own index (TX1 0).1 (TX1 0).2.1 (TX1 0).2.2.1 ∈ q_T) (hdecl : (TX1 0).1 = own) (hdg : decode cc pc = .ok (.putfield index, 3))
    (kk : ∀ (H1 : Heap) (locs1 : List Loc), q_V E s (S.sI 4 a v) H1 locs1 → W p l e R s m args below meth c H1 locs1 cells slots Q (F0 m (pc + 3) ls rest)) : W p l e R s m args below meth c H locs cells slots Q (F0 m pc ls (.int v :: .ref a :: rest)) := by
  obtain ⟨i, hi0, hi⟩ := q_g1 E S hL hK
  have hK1 : (S.sI 4 a v).K a = 1 := hK
  refine q_putF (T := TX1) (k := 0) (S1 := S.sI 4 a v) C hV hin2 q_u1 tyX1 tyX1_ok nmX1 hi rfl (by decide) hl rfl hdecl (rfl) (rfl) (Nat.le_of_ble_eq_true rfl) (q_set E rfl hV.2.2.2.1 hL hi0 ?_ (fun b hb => qF_sI_ne _ _ _ _ _ _ hb)) hdg kk
  rw [qF_1 _ _ _ hK1]
  simp only [qI_self]
  rfl
theorem g_Row_latest (C : CallFix p m c cc nL s args q_T own) (hV : q_V E s S H locs) (hL : a ∈ S.L) (hK : S.K a = 1) {index : Nat} (hl : Cond.fieldLink own index (TX1 1).1 (TX1 1).2.1 (TX1 1).2.2.1 ∈ q_T ∨ ∃ host, Cond.fieldLinkNest own index (TX1 1).1 (TX1 1).2.1 (TX1 1).2.2.1 host ∈ q_T) (hdg : decode cc pc = .ok (.getfield index, 3))
    (kk : W p l e R s m args below meth c H locs cells slots Q (F0 m (pc + 3) ls (va_rf (S.R 2 a) :: rest))) : W p l e R s m args below meth c H locs cells slots Q (F0 m pc ls (.ref a :: rest)) := by
  obtain ⟨i, -, hi⟩ := q_g1 E S hL hK
  exact q_get (T := TX1) (k := 1) C hV q_u1 ⟨i, hi⟩ rfl (by decide) hl rfl hdg kk
theorem p_Row_latest (C : CallFix p m c cc nL s args q_T own) (hV : q_V E s S H locs) (hL : a ∈ S.L) (hK : S.K a = 1) {v : Option Nat} {index : Nat} (hl : Cond.fieldLink own index (TX1 1).1 (TX1 1).2.1 (TX1 1).2.2.1 ∈ q_T ∨ ∃ host, Cond.fieldLinkNest own index (TX1 1).1 (TX1 1).2.1 (TX1 1).2.2.1 host ∈ q_T) (hdg : decode cc pc = .ok (.putfield index, 3))
    (kk : ∀ (H1 : Heap) (locs1 : List Loc), q_V E s (S.sR 2 a v) H1 locs1 → W p l e R s m args below meth c H1 locs1 cells slots Q (F0 m (pc + 3) ls rest)) : W p l e R s m args below meth c H locs cells slots Q (F0 m pc ls (va_rf v :: .ref a :: rest)) := by
  obtain ⟨i, hi0, hi⟩ := q_g1 E S hL hK
  have hK1 : (S.sR 2 a v).K a = 1 := hK
  refine q_put (T := TX1) (k := 1) (S1 := S.sR 2 a v) C hV q_u1 tyX1 tyX1_ok nmX1 hi rfl (by decide) hl rfl (by cases v <;> rfl) (by cases v <;> rfl) (Nat.le_of_ble_eq_true rfl) (q_set E rfl hV.2.2.2.1 hL hi0 ?_ (fun b hb => qF_sR_ne _ _ _ _ _ _ hb)) hdg kk
  rw [qF_1 _ _ _ hK1]
  simp only [qR_self]
  rfl
theorem g_Row_less (C : CallFix p m c cc nL s args q_T own) (hV : q_V E s S H locs) (hL : a ∈ S.L) (hK : S.K a = 1) {index : Nat} (hl : Cond.fieldLink own index (TX1 2).1 (TX1 2).2.1 (TX1 2).2.2.1 ∈ q_T ∨ ∃ host, Cond.fieldLinkNest own index (TX1 2).1 (TX1 2).2.1 (TX1 2).2.2.1 host ∈ q_T) (hdg : decode cc pc = .ok (.getfield index, 3))
    (kk : W p l e R s m args below meth c H locs cells slots Q (F0 m (pc + 3) ls (va_rf (S.R 3 a) :: rest))) : W p l e R s m args below meth c H locs cells slots Q (F0 m pc ls (.ref a :: rest)) := by
  obtain ⟨i, -, hi⟩ := q_g1 E S hL hK
  exact q_get (T := TX1) (k := 2) C hV q_u1 ⟨i, hi⟩ rfl (by decide) hl rfl hdg kk
theorem p_Row_less (C : CallFix p m c cc nL s args q_T own) (hV : q_V E s S H locs) (hL : a ∈ S.L) (hK : S.K a = 1) {v : Option Nat} {index : Nat} (hl : Cond.fieldLink own index (TX1 2).1 (TX1 2).2.1 (TX1 2).2.2.1 ∈ q_T ∨ ∃ host, Cond.fieldLinkNest own index (TX1 2).1 (TX1 2).2.1 (TX1 2).2.2.1 host ∈ q_T) (hdg : decode cc pc = .ok (.putfield index, 3))
    (kk : ∀ (H1 : Heap) (locs1 : List Loc), q_V E s (S.sR 3 a v) H1 locs1 → W p l e R s m args below meth c H1 locs1 cells slots Q (F0 m (pc + 3) ls rest)) : W p l e R s m args below meth c H locs cells slots Q (F0 m pc ls (va_rf v :: .ref a :: rest)) := by
  obtain ⟨i, hi0, hi⟩ := q_g1 E S hL hK
  have hK1 : (S.sR 3 a v).K a = 1 := hK
  refine q_put (T := TX1) (k := 2) (S1 := S.sR 3 a v) C hV q_u1 tyX1 tyX1_ok nmX1 hi rfl (by decide) hl rfl (by cases v <;> rfl) (by cases v <;> rfl) (Nat.le_of_ble_eq_true rfl) (q_set E rfl hV.2.2.2.1 hL hi0 ?_ (fun b hb => qF_sR_ne _ _ _ _ _ _ hb)) hdg kk
  rw [qF_1 _ _ _ hK1]
  simp only [qR_self]
  rfl
theorem g_Row_more (C : CallFix p m c cc nL s args q_T own) (hV : q_V E s S H locs) (hL : a ∈ S.L) (hK : S.K a = 1) {index : Nat} (hl : Cond.fieldLink own index (TX1 3).1 (TX1 3).2.1 (TX1 3).2.2.1 ∈ q_T ∨ ∃ host, Cond.fieldLinkNest own index (TX1 3).1 (TX1 3).2.1 (TX1 3).2.2.1 host ∈ q_T) (hdg : decode cc pc = .ok (.getfield index, 3))
    (kk : W p l e R s m args below meth c H locs cells slots Q (F0 m (pc + 3) ls (va_rf (S.R 4 a) :: rest))) : W p l e R s m args below meth c H locs cells slots Q (F0 m pc ls (.ref a :: rest)) := by
  obtain ⟨i, -, hi⟩ := q_g1 E S hL hK
  exact q_get (T := TX1) (k := 3) C hV q_u1 ⟨i, hi⟩ rfl (by decide) hl rfl hdg kk
theorem p_Row_more (C : CallFix p m c cc nL s args q_T own) (hV : q_V E s S H locs) (hL : a ∈ S.L) (hK : S.K a = 1) {v : Option Nat} {index : Nat} (hl : Cond.fieldLink own index (TX1 3).1 (TX1 3).2.1 (TX1 3).2.2.1 ∈ q_T ∨ ∃ host, Cond.fieldLinkNest own index (TX1 3).1 (TX1 3).2.1 (TX1 3).2.2.1 host ∈ q_T) (hdg : decode cc pc = .ok (.putfield index, 3))
    (kk : ∀ (H1 : Heap) (locs1 : List Loc), q_V E s (S.sR 4 a v) H1 locs1 → W p l e R s m args below meth c H1 locs1 cells slots Q (F0 m (pc + 3) ls rest)) : W p l e R s m args below meth c H locs cells slots Q (F0 m pc ls (va_rf v :: .ref a :: rest)) := by
  obtain ⟨i, hi0, hi⟩ := q_g1 E S hL hK
  have hK1 : (S.sR 4 a v).K a = 1 := hK
  refine q_put (T := TX1) (k := 3) (S1 := S.sR 4 a v) C hV q_u1 tyX1 tyX1_ok nmX1 hi rfl (by decide) hl rfl (by cases v <;> rfl) (by cases v <;> rfl) (Nat.le_of_ble_eq_true rfl) (q_set E rfl hV.2.2.2.1 hL hi0 ?_ (fun b hb => qF_sR_ne _ _ _ _ _ _ hb)) hdg kk
  rw [qF_1 _ _ _ hK1]
  simp only [qR_self]
  rfl
theorem n_Row (C : CallFix p m c cc nL s args q_T own) (hV : q_V E s S H locs) {index : Nat} (hcl : Cond.classLink own index RX1 ∈ q_T) (hcells : cells + 1 ≤ R.cells) (hslots : slots + 4 ≤ R.slots) (hdg : decode cc pc = .ok (.new index, 3))
    (kk : ∀ (q : Nat) (H1 : Heap), q ∉ S.L → q_V E s (S.nO q 1) H1 locs → W p l e R s m args below meth c H1 locs (cells + 1) (slots + 4) Q (F0 m (pc + 3) ls (.ref q :: rest))) : W p l e R s m args below meth c H locs cells slots Q (F0 m pc ls rest) := by
  refine q_new (T := TX1) (N := 4) (fs := [.int 0, .null, .null, .null]) C hV q_u1 tyX1 tyX1_ok hcl wd_65 wd_39 rfl (fun j hj => ?_) (fun q hq => q_add E rfl hq ?_ (fun b hb => qF_nO_ne _ _ _ _ _ hb)) hcells hslots hdg kk
  · rcases (show j = 0 ∨ j = 1 ∨ j = 2 ∨ j = 3 by omega) with rfl | rfl | rfl | rfl <;> rfl
  · have hK1 : (S.nO q 1).K q = 1 := va_up_self _ _ _
    have h2 : ∀ j, (S.nO q 1).I j q = 0 := fun j => va_up_self _ _ _
    have h3 : ∀ j, (S.nO q 1).R j q = none := fun j => va_up_self _ _ _
    have h4 : ∀ j, (S.nO q 1).J j q = 0 := fun j => va_up_self _ _ _
    rw [qF_1 _ _ _ hK1]
    simp only [h2, h3, h4]
    rfl
theorem g_Shelves_small (C : CallFix p m c cc nL s args q_T own) (hV : q_V E s S H locs) (hL : a ∈ S.L) (hK : S.K a = 2) {index : Nat} (hl : Cond.fieldLink own index (TX2 0).1 (TX2 0).2.1 (TX2 0).2.2.1 ∈ q_T ∨ ∃ host, Cond.fieldLinkNest own index (TX2 0).1 (TX2 0).2.1 (TX2 0).2.2.1 host ∈ q_T) (hdg : decode cc pc = .ok (.getfield index, 3))
    (kk : W p l e R s m args below meth c H locs cells slots Q (F0 m (pc + 3) ls (va_rf (S.R 5 a) :: rest))) : W p l e R s m args below meth c H locs cells slots Q (F0 m pc ls (.ref a :: rest)) := by
  obtain ⟨i, -, hi⟩ := q_g2 E S hL hK
  exact q_get (T := TX2) (k := 0) C hV q_u2 ⟨i, hi⟩ rfl (by decide) hl rfl hdg kk
theorem p_Shelves_small (C : CallFix p m c cc nL s args q_T own) (hV : q_V E s S H locs) (hin2 : meth.name = "<init>") (hL : a ∈ S.L) (hK : S.K a = 2) {v : Option Nat} {index : Nat} (hl : Cond.fieldLink own index (TX2 0).1 (TX2 0).2.1 (TX2 0).2.2.1 ∈ q_T) (hdecl : (TX2 0).1 = own) (hdg : decode cc pc = .ok (.putfield index, 3))
    (kk : ∀ (H1 : Heap) (locs1 : List Loc), q_V E s (S.sR 5 a v) H1 locs1 → W p l e R s m args below meth c H1 locs1 cells slots Q (F0 m (pc + 3) ls rest)) : W p l e R s m args below meth c H locs cells slots Q (F0 m pc ls (va_rf v :: .ref a :: rest)) := by
  obtain ⟨i, hi0, hi⟩ := q_g2 E S hL hK
  have hK1 : (S.sR 5 a v).K a = 2 := hK
  refine q_putF (T := TX2) (k := 0) (S1 := S.sR 5 a v) C hV hin2 q_u2 tyX2 tyX2_ok nmX2 hi rfl (by decide) hl rfl hdecl (by cases v <;> rfl) (by cases v <;> rfl) (Nat.le_of_ble_eq_true rfl) (q_set E rfl hV.2.2.2.1 hL hi0 ?_ (fun b hb => qF_sR_ne _ _ _ _ _ _ hb)) hdg kk
  rw [qF_2 _ _ _ hK1]
  simp only [qR_self]
  rfl
theorem g_Shelves_great (C : CallFix p m c cc nL s args q_T own) (hV : q_V E s S H locs) (hL : a ∈ S.L) (hK : S.K a = 2) {index : Nat} (hl : Cond.fieldLink own index (TX2 1).1 (TX2 1).2.1 (TX2 1).2.2.1 ∈ q_T ∨ ∃ host, Cond.fieldLinkNest own index (TX2 1).1 (TX2 1).2.1 (TX2 1).2.2.1 host ∈ q_T) (hdg : decode cc pc = .ok (.getfield index, 3))
    (kk : W p l e R s m args below meth c H locs cells slots Q (F0 m (pc + 3) ls (va_rf (S.R 6 a) :: rest))) : W p l e R s m args below meth c H locs cells slots Q (F0 m pc ls (.ref a :: rest)) := by
  obtain ⟨i, -, hi⟩ := q_g2 E S hL hK
  exact q_get (T := TX2) (k := 1) C hV q_u2 ⟨i, hi⟩ rfl (by decide) hl rfl hdg kk
theorem p_Shelves_great (C : CallFix p m c cc nL s args q_T own) (hV : q_V E s S H locs) (hin2 : meth.name = "<init>") (hL : a ∈ S.L) (hK : S.K a = 2) {v : Option Nat} {index : Nat} (hl : Cond.fieldLink own index (TX2 1).1 (TX2 1).2.1 (TX2 1).2.2.1 ∈ q_T) (hdecl : (TX2 1).1 = own) (hdg : decode cc pc = .ok (.putfield index, 3))
    (kk : ∀ (H1 : Heap) (locs1 : List Loc), q_V E s (S.sR 6 a v) H1 locs1 → W p l e R s m args below meth c H1 locs1 cells slots Q (F0 m (pc + 3) ls rest)) : W p l e R s m args below meth c H locs cells slots Q (F0 m pc ls (va_rf v :: .ref a :: rest)) := by
  obtain ⟨i, hi0, hi⟩ := q_g2 E S hL hK
  have hK1 : (S.sR 6 a v).K a = 2 := hK
  refine q_putF (T := TX2) (k := 1) (S1 := S.sR 6 a v) C hV hin2 q_u2 tyX2 tyX2_ok nmX2 hi rfl (by decide) hl rfl hdecl (by cases v <;> rfl) (by cases v <;> rfl) (Nat.le_of_ble_eq_true rfl) (q_set E rfl hV.2.2.2.1 hL hi0 ?_ (fun b hb => qF_sR_ne _ _ _ _ _ _ hb)) hdg kk
  rw [qF_2 _ _ _ hK1]
  simp only [qR_self]
  rfl
theorem g_Shelves_now (C : CallFix p m c cc nL s args q_T own) (hV : q_V E s S H locs) (hL : a ∈ S.L) (hK : S.K a = 2) {index : Nat} (hl : Cond.fieldLink own index (TX2 2).1 (TX2 2).2.1 (TX2 2).2.2.1 ∈ q_T ∨ ∃ host, Cond.fieldLinkNest own index (TX2 2).1 (TX2 2).2.1 (TX2 2).2.2.1 host ∈ q_T) (hdg : decode cc pc = .ok (.getfield index, 3))
    (kk : W p l e R s m args below meth c H locs cells slots Q (F0 m (pc + 3) ls (.long (S.J 1 a) :: rest))) : W p l e R s m args below meth c H locs cells slots Q (F0 m pc ls (.ref a :: rest)) := by
  obtain ⟨i, -, hi⟩ := q_g2 E S hL hK
  exact q_get (T := TX2) (k := 2) C hV q_u2 ⟨i, hi⟩ rfl (by decide) hl rfl hdg kk
theorem p_Shelves_now (C : CallFix p m c cc nL s args q_T own) (hV : q_V E s S H locs) (hL : a ∈ S.L) (hK : S.K a = 2) {v : Int64} {index : Nat} (hl : Cond.fieldLink own index (TX2 2).1 (TX2 2).2.1 (TX2 2).2.2.1 ∈ q_T ∨ ∃ host, Cond.fieldLinkNest own index (TX2 2).1 (TX2 2).2.1 (TX2 2).2.2.1 host ∈ q_T) (hdg : decode cc pc = .ok (.putfield index, 3))
    (kk : ∀ (H1 : Heap) (locs1 : List Loc), q_V E s (S.sJ 1 a v) H1 locs1 → W p l e R s m args below meth c H1 locs1 cells slots Q (F0 m (pc + 3) ls rest)) : W p l e R s m args below meth c H locs cells slots Q (F0 m pc ls (.long v :: .ref a :: rest)) := by
  obtain ⟨i, hi0, hi⟩ := q_g2 E S hL hK
  have hK1 : (S.sJ 1 a v).K a = 2 := hK
  refine q_put (T := TX2) (k := 2) (S1 := S.sJ 1 a v) C hV q_u2 tyX2 tyX2_ok nmX2 hi rfl (by decide) hl rfl (rfl) (rfl) (Nat.le_of_ble_eq_true rfl) (q_set E rfl hV.2.2.2.1 hL hi0 ?_ (fun b hb => qF_sJ_ne _ _ _ _ _ _ hb)) hdg kk
  rw [qF_2 _ _ _ hK1]
  simp only [qJ_self]
  rfl
theorem n_Shelves (C : CallFix p m c cc nL s args q_T own) (hV : q_V E s S H locs) {index : Nat} (hcl : Cond.classLink own index RX2 ∈ q_T) (hcells : cells + 1 ≤ R.cells) (hslots : slots + 3 ≤ R.slots) (hdg : decode cc pc = .ok (.new index, 3))
    (kk : ∀ (q : Nat) (H1 : Heap), q ∉ S.L → q_V E s (S.nO q 2) H1 locs → W p l e R s m args below meth c H1 locs (cells + 1) (slots + 3) Q (F0 m (pc + 3) ls (.ref q :: rest))) : W p l e R s m args below meth c H locs cells slots Q (F0 m pc ls rest) := by
  refine q_new (T := TX2) (N := 3) (fs := [.null, .null, .long 0]) C hV q_u2 tyX2 tyX2_ok hcl wd_58 wd_38 rfl (fun j hj => ?_) (fun q hq => q_add E rfl hq ?_ (fun b hb => qF_nO_ne _ _ _ _ _ hb)) hcells hslots hdg kk
  · rcases (show j = 0 ∨ j = 1 ∨ j = 2 by omega) with rfl | rfl | rfl <;> rfl
  · have hK1 : (S.nO q 2).K q = 2 := va_up_self _ _ _
    have h2 : ∀ j, (S.nO q 2).I j q = 0 := fun j => va_up_self _ _ _
    have h3 : ∀ j, (S.nO q 2).R j q = none := fun j => va_up_self _ _ _
    have h4 : ∀ j, (S.nO q 2).J j q = 0 := fun j => va_up_self _ _ _
    rw [qF_2 _ _ _ hK1]
    simp only [h2, h3, h4]
    rfl
theorem g_Tree_root (C : CallFix p m c cc nL s args q_T own) (hV : q_V E s S H locs) (hL : a ∈ S.L) (hK : S.K a = 3) {index : Nat} (hl : Cond.fieldLink own index (TX3 0).1 (TX3 0).2.1 (TX3 0).2.2.1 ∈ q_T ∨ ∃ host, Cond.fieldLinkNest own index (TX3 0).1 (TX3 0).2.1 (TX3 0).2.2.1 host ∈ q_T) (hdg : decode cc pc = .ok (.getfield index, 3))
    (kk : W p l e R s m args below meth c H locs cells slots Q (F0 m (pc + 3) ls (va_rf (S.R 7 a) :: rest))) : W p l e R s m args below meth c H locs cells slots Q (F0 m pc ls (.ref a :: rest)) := by
  obtain ⟨i, -, hi⟩ := q_g3 E S hL hK
  exact q_get (T := TX3) (k := 0) C hV q_u3 ⟨i, hi⟩ rfl (by decide) hl rfl hdg kk
theorem p_Tree_root (C : CallFix p m c cc nL s args q_T own) (hV : q_V E s S H locs) (hL : a ∈ S.L) (hK : S.K a = 3) {v : Option Nat} {index : Nat} (hl : Cond.fieldLink own index (TX3 0).1 (TX3 0).2.1 (TX3 0).2.2.1 ∈ q_T ∨ ∃ host, Cond.fieldLinkNest own index (TX3 0).1 (TX3 0).2.1 (TX3 0).2.2.1 host ∈ q_T) (hdg : decode cc pc = .ok (.putfield index, 3))
    (kk : ∀ (H1 : Heap) (locs1 : List Loc), q_V E s (S.sR 7 a v) H1 locs1 → W p l e R s m args below meth c H1 locs1 cells slots Q (F0 m (pc + 3) ls rest)) : W p l e R s m args below meth c H locs cells slots Q (F0 m pc ls (va_rf v :: .ref a :: rest)) := by
  obtain ⟨i, hi0, hi⟩ := q_g3 E S hL hK
  have hK1 : (S.sR 7 a v).K a = 3 := hK
  refine q_put (T := TX3) (k := 0) (S1 := S.sR 7 a v) C hV q_u3 tyX3 tyX3_ok nmX3 hi rfl (by decide) hl rfl (by cases v <;> rfl) (by cases v <;> rfl) (Nat.le_of_ble_eq_true rfl) (q_set E rfl hV.2.2.2.1 hL hi0 ?_ (fun b hb => qF_sR_ne _ _ _ _ _ _ hb)) hdg kk
  rw [qF_3 _ _ _ hK1]
  simp only [qR_self]
  rfl
theorem n_Tree (C : CallFix p m c cc nL s args q_T own) (hV : q_V E s S H locs) {index : Nat} (hcl : Cond.classLink own index RX3 ∈ q_T) (hcells : cells + 1 ≤ R.cells) (hslots : slots + 1 ≤ R.slots) (hdg : decode cc pc = .ok (.new index, 3))
    (kk : ∀ (q : Nat) (H1 : Heap), q ∉ S.L → q_V E s (S.nO q 3) H1 locs → W p l e R s m args below meth c H1 locs (cells + 1) (slots + 1) Q (F0 m (pc + 3) ls (.ref q :: rest))) : W p l e R s m args below meth c H locs cells slots Q (F0 m pc ls rest) := by
  refine q_new (T := TX3) (N := 1) (fs := [.null]) C hV q_u3 tyX3 tyX3_ok hcl wd_87 wd_40 rfl (fun j hj => ?_) (fun q hq => q_add E rfl hq ?_ (fun b hb => qF_nO_ne _ _ _ _ _ hb)) hcells hslots hdg kk
  · rcases (show j = 0 by omega) with rfl <;> rfl
  · have hK1 : (S.nO q 3).K q = 3 := va_up_self _ _ _
    have h2 : ∀ j, (S.nO q 3).I j q = 0 := fun j => va_up_self _ _ _
    have h3 : ∀ j, (S.nO q 3).R j q = none := fun j => va_up_self _ _ _
    have h4 : ∀ j, (S.nO q 3).J j q = 0 := fun j => va_up_self _ _ _
    rw [qF_3 _ _ _ hK1]
    simp only [h2, h3, h4]
    rfl
theorem g_Shelf_shelves (C : CallFix p m c cc nL s args q_T own) (hV : q_V E s S H locs) (hL : a ∈ S.L) (hK : S.K a = 4) {index : Nat} (hl : Cond.fieldLink own index (TX4 0).1 (TX4 0).2.1 (TX4 0).2.2.1 ∈ q_T ∨ ∃ host, Cond.fieldLinkNest own index (TX4 0).1 (TX4 0).2.1 (TX4 0).2.2.1 host ∈ q_T) (hdg : decode cc pc = .ok (.getfield index, 3))
    (kk : W p l e R s m args below meth c H locs cells slots Q (F0 m (pc + 3) ls (va_rf (S.R 8 a) :: rest))) : W p l e R s m args below meth c H locs cells slots Q (F0 m pc ls (.ref a :: rest)) := by
  obtain ⟨i, -, hi⟩ := q_g4 E S hL hK
  exact q_get (T := TX4) (k := 0) C hV q_u4 ⟨i, hi⟩ rfl (by decide) hl rfl hdg kk
theorem p_Shelf_shelves (C : CallFix p m c cc nL s args q_T own) (hV : q_V E s S H locs) (hin2 : meth.name = "<init>") (hL : a ∈ S.L) (hK : S.K a = 4) {v : Option Nat} {index : Nat} (hl : Cond.fieldLink own index (TX4 0).1 (TX4 0).2.1 (TX4 0).2.2.1 ∈ q_T) (hdecl : (TX4 0).1 = own) (hdg : decode cc pc = .ok (.putfield index, 3))
    (kk : ∀ (H1 : Heap) (locs1 : List Loc), q_V E s (S.sR 8 a v) H1 locs1 → W p l e R s m args below meth c H1 locs1 cells slots Q (F0 m (pc + 3) ls rest)) : W p l e R s m args below meth c H locs cells slots Q (F0 m pc ls (va_rf v :: .ref a :: rest)) := by
  obtain ⟨i, hi0, hi⟩ := q_g4 E S hL hK
  have hK1 : (S.sR 8 a v).K a = 4 := hK
  refine q_putF (T := TX4) (k := 0) (S1 := S.sR 8 a v) C hV hin2 q_u4 tyX4 tyX4_ok nmX4 hi rfl (by decide) hl rfl hdecl (by cases v <;> rfl) (by cases v <;> rfl) (Nat.le_of_ble_eq_true rfl) (q_set E rfl hV.2.2.2.1 hL hi0 ?_ (fun b hb => qF_sR_ne _ _ _ _ _ _ hb)) hdg kk
  rw [qF_4 _ _ _ hK1]
  simp only [qR_self]
  rfl
theorem g_Shelf_lowest (C : CallFix p m c cc nL s args q_T own) (hV : q_V E s S H locs) (hL : a ∈ S.L) (hK : S.K a = 4) {index : Nat} (hl : Cond.fieldLink own index (TX4 1).1 (TX4 1).2.1 (TX4 1).2.2.1 ∈ q_T ∨ ∃ host, Cond.fieldLinkNest own index (TX4 1).1 (TX4 1).2.1 (TX4 1).2.2.1 host ∈ q_T) (hdg : decode cc pc = .ok (.getfield index, 3))
    (kk : W p l e R s m args below meth c H locs cells slots Q (F0 m (pc + 3) ls (va_rf (S.R 9 a) :: rest))) : W p l e R s m args below meth c H locs cells slots Q (F0 m pc ls (.ref a :: rest)) := by
  obtain ⟨i, -, hi⟩ := q_g4 E S hL hK
  exact q_get (T := TX4) (k := 1) C hV q_u4 ⟨i, hi⟩ rfl (by decide) hl rfl hdg kk
theorem p_Shelf_lowest (C : CallFix p m c cc nL s args q_T own) (hV : q_V E s S H locs) (hL : a ∈ S.L) (hK : S.K a = 4) {v : Option Nat} {index : Nat} (hl : Cond.fieldLink own index (TX4 1).1 (TX4 1).2.1 (TX4 1).2.2.1 ∈ q_T ∨ ∃ host, Cond.fieldLinkNest own index (TX4 1).1 (TX4 1).2.1 (TX4 1).2.2.1 host ∈ q_T) (hdg : decode cc pc = .ok (.putfield index, 3))
    (kk : ∀ (H1 : Heap) (locs1 : List Loc), q_V E s (S.sR 9 a v) H1 locs1 → W p l e R s m args below meth c H1 locs1 cells slots Q (F0 m (pc + 3) ls rest)) : W p l e R s m args below meth c H locs cells slots Q (F0 m pc ls (va_rf v :: .ref a :: rest)) := by
  obtain ⟨i, hi0, hi⟩ := q_g4 E S hL hK
  have hK1 : (S.sR 9 a v).K a = 4 := hK
  refine q_put (T := TX4) (k := 1) (S1 := S.sR 9 a v) C hV q_u4 tyX4 tyX4_ok nmX4 hi rfl (by decide) hl rfl (by cases v <;> rfl) (by cases v <;> rfl) (Nat.le_of_ble_eq_true rfl) (q_set E rfl hV.2.2.2.1 hL hi0 ?_ (fun b hb => qF_sR_ne _ _ _ _ _ _ hb)) hdg kk
  rw [qF_4 _ _ _ hK1]
  simp only [qR_self]
  rfl
theorem g_Shelf_cellCount (C : CallFix p m c cc nL s args q_T own) (hV : q_V E s S H locs) (hL : a ∈ S.L) (hK : S.K a = 4) {index : Nat} (hl : Cond.fieldLink own index (TX4 2).1 (TX4 2).2.1 (TX4 2).2.2.1 ∈ q_T ∨ ∃ host, Cond.fieldLinkNest own index (TX4 2).1 (TX4 2).2.1 (TX4 2).2.2.1 host ∈ q_T) (hdg : decode cc pc = .ok (.getfield index, 3))
    (kk : W p l e R s m args below meth c H locs cells slots Q (F0 m (pc + 3) ls (.int (S.I 5 a) :: rest))) : W p l e R s m args below meth c H locs cells slots Q (F0 m pc ls (.ref a :: rest)) := by
  obtain ⟨i, -, hi⟩ := q_g4 E S hL hK
  exact q_get (T := TX4) (k := 2) C hV q_u4 ⟨i, hi⟩ rfl (by decide) hl rfl hdg kk
theorem p_Shelf_cellCount (C : CallFix p m c cc nL s args q_T own) (hV : q_V E s S H locs) (hL : a ∈ S.L) (hK : S.K a = 4) {v : Int32} {index : Nat} (hl : Cond.fieldLink own index (TX4 2).1 (TX4 2).2.1 (TX4 2).2.2.1 ∈ q_T ∨ ∃ host, Cond.fieldLinkNest own index (TX4 2).1 (TX4 2).2.1 (TX4 2).2.2.1 host ∈ q_T) (hdg : decode cc pc = .ok (.putfield index, 3))
    (kk : ∀ (H1 : Heap) (locs1 : List Loc), q_V E s (S.sI 5 a v) H1 locs1 → W p l e R s m args below meth c H1 locs1 cells slots Q (F0 m (pc + 3) ls rest)) : W p l e R s m args below meth c H locs cells slots Q (F0 m pc ls (.int v :: .ref a :: rest)) := by
  obtain ⟨i, hi0, hi⟩ := q_g4 E S hL hK
  have hK1 : (S.sI 5 a v).K a = 4 := hK
  refine q_put (T := TX4) (k := 2) (S1 := S.sI 5 a v) C hV q_u4 tyX4 tyX4_ok nmX4 hi rfl (by decide) hl rfl (rfl) (rfl) (Nat.le_of_ble_eq_true rfl) (q_set E rfl hV.2.2.2.1 hL hi0 ?_ (fun b hb => qF_sI_ne _ _ _ _ _ _ hb)) hdg kk
  rw [qF_4 _ _ _ hK1]
  simp only [qI_self]
  rfl
theorem g_Shelf_misses (C : CallFix p m c cc nL s args q_T own) (hV : q_V E s S H locs) (hL : a ∈ S.L) (hK : S.K a = 4) {index : Nat} (hl : Cond.fieldLink own index (TX4 3).1 (TX4 3).2.1 (TX4 3).2.2.1 ∈ q_T ∨ ∃ host, Cond.fieldLinkNest own index (TX4 3).1 (TX4 3).2.1 (TX4 3).2.2.1 host ∈ q_T) (hdg : decode cc pc = .ok (.getfield index, 3))
    (kk : W p l e R s m args below meth c H locs cells slots Q (F0 m (pc + 3) ls (.int (S.I 6 a) :: rest))) : W p l e R s m args below meth c H locs cells slots Q (F0 m pc ls (.ref a :: rest)) := by
  obtain ⟨i, -, hi⟩ := q_g4 E S hL hK
  exact q_get (T := TX4) (k := 3) C hV q_u4 ⟨i, hi⟩ rfl (by decide) hl rfl hdg kk
theorem p_Shelf_misses (C : CallFix p m c cc nL s args q_T own) (hV : q_V E s S H locs) (hL : a ∈ S.L) (hK : S.K a = 4) {v : Int32} {index : Nat} (hl : Cond.fieldLink own index (TX4 3).1 (TX4 3).2.1 (TX4 3).2.2.1 ∈ q_T ∨ ∃ host, Cond.fieldLinkNest own index (TX4 3).1 (TX4 3).2.1 (TX4 3).2.2.1 host ∈ q_T) (hdg : decode cc pc = .ok (.putfield index, 3))
    (kk : ∀ (H1 : Heap) (locs1 : List Loc), q_V E s (S.sI 6 a v) H1 locs1 → W p l e R s m args below meth c H1 locs1 cells slots Q (F0 m (pc + 3) ls rest)) : W p l e R s m args below meth c H locs cells slots Q (F0 m pc ls (.int v :: .ref a :: rest)) := by
  obtain ⟨i, hi0, hi⟩ := q_g4 E S hL hK
  have hK1 : (S.sI 6 a v).K a = 4 := hK
  refine q_put (T := TX4) (k := 3) (S1 := S.sI 6 a v) C hV q_u4 tyX4 tyX4_ok nmX4 hi rfl (by decide) hl rfl (rfl) (rfl) (Nat.le_of_ble_eq_true rfl) (q_set E rfl hV.2.2.2.1 hL hi0 ?_ (fun b hb => qF_sI_ne _ _ _ _ _ _ hb)) hdg kk
  rw [qF_4 _ _ _ hK1]
  simp only [qI_self]
  rfl
theorem n_Shelf (C : CallFix p m c cc nL s args q_T own) (hV : q_V E s S H locs) {index : Nat} (hcl : Cond.classLink own index RX4 ∈ q_T) (hcells : cells + 1 ≤ R.cells) (hslots : slots + 4 ≤ R.slots) (hdg : decode cc pc = .ok (.new index, 3))
    (kk : ∀ (q : Nat) (H1 : Heap), q ∉ S.L → q_V E s (S.nO q 4) H1 locs → W p l e R s m args below meth c H1 locs (cells + 1) (slots + 4) Q (F0 m (pc + 3) ls (.ref q :: rest))) : W p l e R s m args below meth c H locs cells slots Q (F0 m pc ls rest) := by
  refine q_new (T := TX4) (N := 4) (fs := [.null, .null, .int 0, .int 0]) C hV q_u4 tyX4 tyX4_ok hcl wd_50 wd_37 rfl (fun j hj => ?_) (fun q hq => q_add E rfl hq ?_ (fun b hb => qF_nO_ne _ _ _ _ _ hb)) hcells hslots hdg kk
  · rcases (show j = 0 ∨ j = 1 ∨ j = 2 ∨ j = 3 by omega) with rfl | rfl | rfl | rfl <;> rfl
  · have hK1 : (S.nO q 4).K q = 4 := va_up_self _ _ _
    have h2 : ∀ j, (S.nO q 4).I j q = 0 := fun j => va_up_self _ _ _
    have h3 : ∀ j, (S.nO q 4).R j q = none := fun j => va_up_self _ _ _
    have h4 : ∀ j, (S.nO q 4).J j q = 0 := fun j => va_up_self _ _ _
    rw [qF_4 _ _ _ hK1]
    simp only [h2, h3, h4]
    rfl
theorem g_Model_thrown (C : CallFix p m c cc nL s args q_T own) (hV : q_V E s S H locs) (hL : a ∈ S.L) (hK : S.K a = 5) {index : Nat} (hl : Cond.fieldLink own index (TX5 0).1 (TX5 0).2.1 (TX5 0).2.2.1 ∈ q_T ∨ ∃ host, Cond.fieldLinkNest own index (TX5 0).1 (TX5 0).2.1 (TX5 0).2.2.1 host ∈ q_T) (hdg : decode cc pc = .ok (.getfield index, 3))
    (kk : W p l e R s m args below meth c H locs cells slots Q (F0 m (pc + 3) ls (.int (S.I 7 a) :: rest))) : W p l e R s m args below meth c H locs cells slots Q (F0 m pc ls (.ref a :: rest)) := by
  obtain ⟨i, -, hi⟩ := q_g5 E S hL hK
  exact q_get (T := TX5) (k := 0) C hV q_u5 ⟨i, hi⟩ rfl (by decide) hl rfl hdg kk
theorem p_Model_thrown (C : CallFix p m c cc nL s args q_T own) (hV : q_V E s S H locs) (hL : a ∈ S.L) (hK : S.K a = 5) {v : Int32} {index : Nat} (hl : Cond.fieldLink own index (TX5 0).1 (TX5 0).2.1 (TX5 0).2.2.1 ∈ q_T ∨ ∃ host, Cond.fieldLinkNest own index (TX5 0).1 (TX5 0).2.1 (TX5 0).2.2.1 host ∈ q_T) (hdg : decode cc pc = .ok (.putfield index, 3))
    (kk : ∀ (H1 : Heap) (locs1 : List Loc), q_V E s (S.sI 7 a v) H1 locs1 → W p l e R s m args below meth c H1 locs1 cells slots Q (F0 m (pc + 3) ls rest)) : W p l e R s m args below meth c H locs cells slots Q (F0 m pc ls (.int v :: .ref a :: rest)) := by
  obtain ⟨i, hi0, hi⟩ := q_g5 E S hL hK
  have hK1 : (S.sI 7 a v).K a = 5 := hK
  refine q_put (T := TX5) (k := 0) (S1 := S.sI 7 a v) C hV q_u5 tyX5 tyX5_ok nmX5 hi rfl (by decide) hl rfl (rfl) (rfl) (Nat.le_of_ble_eq_true rfl) (q_set E rfl hV.2.2.2.1 hL hi0 ?_ (fun b hb => qF_sI_ne _ _ _ _ _ _ hb)) hdg kk
  rw [qF_5 _ _ _ hK1]
  simp only [qI_self]
  rfl
theorem g_Model_cells (C : CallFix p m c cc nL s args q_T own) (hV : q_V E s S H locs) (hL : a ∈ S.L) (hK : S.K a = 5) {index : Nat} (hl : Cond.fieldLink own index (TX5 1).1 (TX5 1).2.1 (TX5 1).2.2.1 ∈ q_T ∨ ∃ host, Cond.fieldLinkNest own index (TX5 1).1 (TX5 1).2.1 (TX5 1).2.2.1 host ∈ q_T) (hdg : decode cc pc = .ok (.getfield index, 3))
    (kk : W p l e R s m args below meth c H locs cells slots Q (F0 m (pc + 3) ls (.int (S.I 8 a) :: rest))) : W p l e R s m args below meth c H locs cells slots Q (F0 m pc ls (.ref a :: rest)) := by
  obtain ⟨i, -, hi⟩ := q_g5 E S hL hK
  exact q_get (T := TX5) (k := 1) C hV q_u5 ⟨i, hi⟩ rfl (by decide) hl rfl hdg kk
theorem p_Model_cells (C : CallFix p m c cc nL s args q_T own) (hV : q_V E s S H locs) (hL : a ∈ S.L) (hK : S.K a = 5) {v : Int32} {index : Nat} (hl : Cond.fieldLink own index (TX5 1).1 (TX5 1).2.1 (TX5 1).2.2.1 ∈ q_T ∨ ∃ host, Cond.fieldLinkNest own index (TX5 1).1 (TX5 1).2.1 (TX5 1).2.2.1 host ∈ q_T) (hdg : decode cc pc = .ok (.putfield index, 3))
    (kk : ∀ (H1 : Heap) (locs1 : List Loc), q_V E s (S.sI 8 a v) H1 locs1 → W p l e R s m args below meth c H1 locs1 cells slots Q (F0 m (pc + 3) ls rest)) : W p l e R s m args below meth c H locs cells slots Q (F0 m pc ls (.int v :: .ref a :: rest)) := by
  obtain ⟨i, hi0, hi⟩ := q_g5 E S hL hK
  have hK1 : (S.sI 8 a v).K a = 5 := hK
  refine q_put (T := TX5) (k := 1) (S1 := S.sI 8 a v) C hV q_u5 tyX5 tyX5_ok nmX5 hi rfl (by decide) hl rfl (rfl) (rfl) (Nat.le_of_ble_eq_true rfl) (q_set E rfl hV.2.2.2.1 hL hi0 ?_ (fun b hb => qF_sI_ne _ _ _ _ _ _ hb)) hdg kk
  rw [qF_5 _ _ _ hK1]
  simp only [qI_self]
  rfl
theorem g_Model_sizes (C : CallFix p m c cc nL s args q_T own) (hV : q_V E s S H locs) (hL : a ∈ S.L) (hK : S.K a = 5) {index : Nat} (hl : Cond.fieldLink own index (TX5 2).1 (TX5 2).2.1 (TX5 2).2.2.1 ∈ q_T ∨ ∃ host, Cond.fieldLinkNest own index (TX5 2).1 (TX5 2).2.1 (TX5 2).2.2.1 host ∈ q_T) (hdg : decode cc pc = .ok (.getfield index, 3))
    (kk : W p l e R s m args below meth c H locs cells slots Q (F0 m (pc + 3) ls (va_rf (S.R 10 a) :: rest))) : W p l e R s m args below meth c H locs cells slots Q (F0 m pc ls (.ref a :: rest)) := by
  obtain ⟨i, -, hi⟩ := q_g5 E S hL hK
  exact q_get (T := TX5) (k := 2) C hV q_u5 ⟨i, hi⟩ rfl (by decide) hl rfl hdg kk
theorem p_Model_sizes (C : CallFix p m c cc nL s args q_T own) (hV : q_V E s S H locs) (hin2 : meth.name = "<init>") (hL : a ∈ S.L) (hK : S.K a = 5) {v : Option Nat} {index : Nat} (hl : Cond.fieldLink own index (TX5 2).1 (TX5 2).2.1 (TX5 2).2.2.1 ∈ q_T) (hdecl : (TX5 2).1 = own) (hdg : decode cc pc = .ok (.putfield index, 3))
    (kk : ∀ (H1 : Heap) (locs1 : List Loc), q_V E s (S.sR 10 a v) H1 locs1 → W p l e R s m args below meth c H1 locs1 cells slots Q (F0 m (pc + 3) ls rest)) : W p l e R s m args below meth c H locs cells slots Q (F0 m pc ls (va_rf v :: .ref a :: rest)) := by
  obtain ⟨i, hi0, hi⟩ := q_g5 E S hL hK
  have hK1 : (S.sR 10 a v).K a = 5 := hK
  refine q_putF (T := TX5) (k := 2) (S1 := S.sR 10 a v) C hV hin2 q_u5 tyX5 tyX5_ok nmX5 hi rfl (by decide) hl rfl hdecl (by cases v <;> rfl) (by cases v <;> rfl) (Nat.le_of_ble_eq_true rfl) (q_set E rfl hV.2.2.2.1 hL hi0 ?_ (fun b hb => qF_sR_ne _ _ _ _ _ _ hb)) hdg kk
  rw [qF_5 _ _ _ hK1]
  simp only [qR_self]
  rfl
theorem g_Model_times (C : CallFix p m c cc nL s args q_T own) (hV : q_V E s S H locs) (hL : a ∈ S.L) (hK : S.K a = 5) {index : Nat} (hl : Cond.fieldLink own index (TX5 3).1 (TX5 3).2.1 (TX5 3).2.2.1 ∈ q_T ∨ ∃ host, Cond.fieldLinkNest own index (TX5 3).1 (TX5 3).2.1 (TX5 3).2.2.1 host ∈ q_T) (hdg : decode cc pc = .ok (.getfield index, 3))
    (kk : W p l e R s m args below meth c H locs cells slots Q (F0 m (pc + 3) ls (va_rf (S.R 11 a) :: rest))) : W p l e R s m args below meth c H locs cells slots Q (F0 m pc ls (.ref a :: rest)) := by
  obtain ⟨i, -, hi⟩ := q_g5 E S hL hK
  exact q_get (T := TX5) (k := 3) C hV q_u5 ⟨i, hi⟩ rfl (by decide) hl rfl hdg kk
theorem p_Model_times (C : CallFix p m c cc nL s args q_T own) (hV : q_V E s S H locs) (hin2 : meth.name = "<init>") (hL : a ∈ S.L) (hK : S.K a = 5) {v : Option Nat} {index : Nat} (hl : Cond.fieldLink own index (TX5 3).1 (TX5 3).2.1 (TX5 3).2.2.1 ∈ q_T) (hdecl : (TX5 3).1 = own) (hdg : decode cc pc = .ok (.putfield index, 3))
    (kk : ∀ (H1 : Heap) (locs1 : List Loc), q_V E s (S.sR 11 a v) H1 locs1 → W p l e R s m args below meth c H1 locs1 cells slots Q (F0 m (pc + 3) ls rest)) : W p l e R s m args below meth c H locs cells slots Q (F0 m pc ls (va_rf v :: .ref a :: rest)) := by
  obtain ⟨i, hi0, hi⟩ := q_g5 E S hL hK
  have hK1 : (S.sR 11 a v).K a = 5 := hK
  refine q_putF (T := TX5) (k := 3) (S1 := S.sR 11 a v) C hV hin2 q_u5 tyX5 tyX5_ok nmX5 hi rfl (by decide) hl rfl hdecl (by cases v <;> rfl) (by cases v <;> rfl) (Nat.le_of_ble_eq_true rfl) (q_set E rfl hV.2.2.2.1 hL hi0 ?_ (fun b hb => qF_sR_ne _ _ _ _ _ _ hb)) hdg kk
  rw [qF_5 _ _ _ hK1]
  simp only [qR_self]
  rfl
theorem g_Model_now (C : CallFix p m c cc nL s args q_T own) (hV : q_V E s S H locs) (hL : a ∈ S.L) (hK : S.K a = 5) {index : Nat} (hl : Cond.fieldLink own index (TX5 4).1 (TX5 4).2.1 (TX5 4).2.2.1 ∈ q_T ∨ ∃ host, Cond.fieldLinkNest own index (TX5 4).1 (TX5 4).2.1 (TX5 4).2.2.1 host ∈ q_T) (hdg : decode cc pc = .ok (.getfield index, 3))
    (kk : W p l e R s m args below meth c H locs cells slots Q (F0 m (pc + 3) ls (.int (S.I 9 a) :: rest))) : W p l e R s m args below meth c H locs cells slots Q (F0 m pc ls (.ref a :: rest)) := by
  obtain ⟨i, -, hi⟩ := q_g5 E S hL hK
  exact q_get (T := TX5) (k := 4) C hV q_u5 ⟨i, hi⟩ rfl (by decide) hl rfl hdg kk
theorem p_Model_now (C : CallFix p m c cc nL s args q_T own) (hV : q_V E s S H locs) (hL : a ∈ S.L) (hK : S.K a = 5) {v : Int32} {index : Nat} (hl : Cond.fieldLink own index (TX5 4).1 (TX5 4).2.1 (TX5 4).2.2.1 ∈ q_T ∨ ∃ host, Cond.fieldLinkNest own index (TX5 4).1 (TX5 4).2.1 (TX5 4).2.2.1 host ∈ q_T) (hdg : decode cc pc = .ok (.putfield index, 3))
    (kk : ∀ (H1 : Heap) (locs1 : List Loc), q_V E s (S.sI 9 a v) H1 locs1 → W p l e R s m args below meth c H1 locs1 cells slots Q (F0 m (pc + 3) ls rest)) : W p l e R s m args below meth c H locs cells slots Q (F0 m pc ls (.int v :: .ref a :: rest)) := by
  obtain ⟨i, hi0, hi⟩ := q_g5 E S hL hK
  have hK1 : (S.sI 9 a v).K a = 5 := hK
  refine q_put (T := TX5) (k := 4) (S1 := S.sI 9 a v) C hV q_u5 tyX5 tyX5_ok nmX5 hi rfl (by decide) hl rfl (rfl) (rfl) (Nat.le_of_ble_eq_true rfl) (q_set E rfl hV.2.2.2.1 hL hi0 ?_ (fun b hb => qF_sI_ne _ _ _ _ _ _ hb)) hdg kk
  rw [qF_5 _ _ _ hK1]
  simp only [qI_self]
  rfl
theorem g_Model_failures (C : CallFix p m c cc nL s args q_T own) (hV : q_V E s S H locs) (hL : a ∈ S.L) (hK : S.K a = 5) {index : Nat} (hl : Cond.fieldLink own index (TX5 5).1 (TX5 5).2.1 (TX5 5).2.2.1 ∈ q_T ∨ ∃ host, Cond.fieldLinkNest own index (TX5 5).1 (TX5 5).2.1 (TX5 5).2.2.1 host ∈ q_T) (hdg : decode cc pc = .ok (.getfield index, 3))
    (kk : W p l e R s m args below meth c H locs cells slots Q (F0 m (pc + 3) ls (.int (S.I 10 a) :: rest))) : W p l e R s m args below meth c H locs cells slots Q (F0 m pc ls (.ref a :: rest)) := by
  obtain ⟨i, -, hi⟩ := q_g5 E S hL hK
  exact q_get (T := TX5) (k := 5) C hV q_u5 ⟨i, hi⟩ rfl (by decide) hl rfl hdg kk
theorem p_Model_failures (C : CallFix p m c cc nL s args q_T own) (hV : q_V E s S H locs) (hL : a ∈ S.L) (hK : S.K a = 5) {v : Int32} {index : Nat} (hl : Cond.fieldLink own index (TX5 5).1 (TX5 5).2.1 (TX5 5).2.2.1 ∈ q_T ∨ ∃ host, Cond.fieldLinkNest own index (TX5 5).1 (TX5 5).2.1 (TX5 5).2.2.1 host ∈ q_T) (hdg : decode cc pc = .ok (.putfield index, 3))
    (kk : ∀ (H1 : Heap) (locs1 : List Loc), q_V E s (S.sI 10 a v) H1 locs1 → W p l e R s m args below meth c H1 locs1 cells slots Q (F0 m (pc + 3) ls rest)) : W p l e R s m args below meth c H locs cells slots Q (F0 m pc ls (.int v :: .ref a :: rest)) := by
  obtain ⟨i, hi0, hi⟩ := q_g5 E S hL hK
  have hK1 : (S.sI 10 a v).K a = 5 := hK
  refine q_put (T := TX5) (k := 5) (S1 := S.sI 10 a v) C hV q_u5 tyX5 tyX5_ok nmX5 hi rfl (by decide) hl rfl (rfl) (rfl) (Nat.le_of_ble_eq_true rfl) (q_set E rfl hV.2.2.2.1 hL hi0 ?_ (fun b hb => qF_sI_ne _ _ _ _ _ _ hb)) hdg kk
  rw [qF_5 _ _ _ hK1]
  simp only [qI_self]
  rfl
theorem n_Model (C : CallFix p m c cc nL s args q_T own) (hV : q_V E s S H locs) {index : Nat} (hcl : Cond.classLink own index RX5 ∈ q_T) (hcells : cells + 1 ≤ R.cells) (hslots : slots + 6 ≤ R.slots) (hdg : decode cc pc = .ok (.new index, 3))
    (kk : ∀ (q : Nat) (H1 : Heap), q ∉ S.L → q_V E s (S.nO q 5) H1 locs → W p l e R s m args below meth c H1 locs (cells + 1) (slots + 6) Q (F0 m (pc + 3) ls (.ref q :: rest))) : W p l e R s m args below meth c H locs cells slots Q (F0 m pc ls rest) := by
  refine q_new (T := TX5) (N := 6) (fs := [.int 0, .int 0, .null, .null, .int 0, .int 0]) C hV q_u5 tyX5 tyX5_ok hcl wd_442 wd_42 rfl (fun j hj => ?_) (fun q hq => q_add E rfl hq ?_ (fun b hb => qF_nO_ne _ _ _ _ _ hb)) hcells hslots hdg kk
  · rcases (show j = 0 ∨ j = 1 ∨ j = 2 ∨ j = 3 ∨ j = 4 ∨ j = 5 by omega) with rfl | rfl | rfl | rfl | rfl | rfl <;> rfl
  · have hK1 : (S.nO q 5).K q = 5 := va_up_self _ _ _
    have h2 : ∀ j, (S.nO q 5).I j q = 0 := fun j => va_up_self _ _ _
    have h3 : ∀ j, (S.nO q 5).R j q = none := fun j => va_up_self _ _ _
    have h4 : ∀ j, (S.nO q 5).J j q = 0 := fun j => va_up_self _ _ _
    rw [qF_5 _ _ _ hK1]
    simp only [h2, h3, h4]
    rfl
end QF
end
section
section QR
/-! locals: what stays when one is written -/
def q_kp (i : Nat) (v : Value) (lv lv' : List (Nat × Value)) : Prop := ∀ q ∈ lv', q = (i, v) ∨ (q ∈ lv ∧ q.1 ≠ i ∧ (q.1 + 1 = i → q.2.category = 1))
theorem q_kz {i : Nat} {v : Value} {lv : List (Nat × Value)} : q_kp i v lv [] := fun q h => nomatch h
theorem q_k0 {i : Nat} {v : Value} {lv t : List (Nat × Value)} (ht : q_kp i v lv t) : q_kp i v lv ((i, v) :: t) := fun q h => (List.mem_cons.mp h).elim (fun e => Or.inl e) (ht q)
theorem q_kN {i j : Nat} {v w : Value} {lv t : List (Nat × Value)} (k : Nat) (hk : lv[k]? = some (j, w)) (h1 : j ≠ i) (h2 : j + 1 ≠ i) (ht : q_kp i v lv t) : q_kp i v lv ((j, w) :: t) := fun q h => (List.mem_cons.mp h).elim (fun e => Or.inr (by subst e; exact ⟨List.mem_of_getElem? hk, h1, fun z => absurd z h2⟩)) (ht q)
theorem q_kC {i j : Nat} {v w : Value} {lv t : List (Nat × Value)} (k : Nat) (hk : lv[k]? = some (j, w)) (h1 : j ≠ i) (hc : w.category = 1) (ht : q_kp i v lv t) : q_kp i v lv ((j, w) :: t) := fun q h => (List.mem_cons.mp h).elim (fun e => Or.inr (by subst e; exact ⟨List.mem_of_getElem? hk, h1, fun _ => hc⟩)) (ht q)
theorem q_cat (r : Option Nat) : (va_rf r).category = 1 := by cases r <;> rfl
theorem q_kp.has {ls : Array Slot} {nL i : Nat} {v : Value} {lv lv' : List (Nat × Value)} (h : lv_has ls nL ((i, v) :: lv.filter (fun q => !(q.1 == i) && !(q.1 + 1 == i && q.2.category == 2)))) (hk : q_kp i v lv lv') : lv_has ls nL lv' := by
  refine ⟨h.1, h.2.1, fun q hq => h.2.2 q ?_⟩
  rcases hk q hq with e | ⟨h1, h2, h3⟩
  · exact List.mem_cons.mpr (Or.inl e)
  · refine List.mem_cons.mpr (Or.inr (List.mem_filter.mpr ⟨h1, ?_⟩))
    by_cases h4 : q.1 + 1 = i
    · simp [h2, h4, h3 h4]
    · simp [h2, h4]
variable {p : Program} {l : Launch} {e : Env} {R : Room} {s : State} {m : MethodId} {args : Array Value} {below : List Frame} {meth : Method} {c : Code} {H : Heap} {locs : List Loc} {cells slots : Nat} {Q : State → Prop}
variable {cc : ByteArray} {nL pc : Nat} {ls : Array Slot} {rest st0 : List Value} {own : String} {E : qE} {S : qS} {a : Nat} {Ts : List Cond}
theorem q_istore_n (C : CallFix p m c cc nL s args Ts own) {k : Fin 4} {i : Nat} {x : Int32} {lv lv' : List (Nat × Value)} (hdg : decode cc pc = .ok (.istore_n k, 1)) (hi : (k : Nat) = i) (h : lv_has ls nL lv) (hn : i < nL) (hl : q_kp i (.int x) lv lv')
    (kk : ∀ ls' : Array Slot, lv_has ls' nL lv' → W p l e R s m args below meth c H locs cells slots Q (F0 m (pc + 1) ls' rest)) : W p l e R s m args below meth c H locs cells slots Q (F0 m pc ls (.int x :: rest)) :=
  lv_istore_n C.1 C.2.1 hdg hi h hn rfl (fun ls' h' => kk ls' (q_kp.has h' hl))
theorem q_istore (C : CallFix p m c cc nL s args Ts own) {i : Nat} {x : Int32} {lv lv' : List (Nat × Value)} (hdg : decode cc pc = .ok (.istore i, 2)) (h : lv_has ls nL lv) (hn : i < nL) (hl : q_kp i (.int x) lv lv')
    (kk : ∀ ls' : Array Slot, lv_has ls' nL lv' → W p l e R s m args below meth c H locs cells slots Q (F0 m (pc + 2) ls' rest)) : W p l e R s m args below meth c H locs cells slots Q (F0 m pc ls (.int x :: rest)) :=
  lv_istore C.1 C.2.1 hdg h hn rfl (fun ls' h' => kk ls' (q_kp.has h' hl))
theorem q_iinc (C : CallFix p m c cc nL s args Ts own) {i k : Nat} {n : Int} {x v : Int32} {lv lv' : List (Nat × Value)} (hdg : decode cc pc = .ok (.iinc i n, 3)) (h : lv_has ls nL lv) (hk : lv[k]? = some (i, .int x)) (hv : x + Int32.ofInt n = v) (hn : i < nL) (hl : q_kp i (.int v) lv lv')
    (kk : ∀ ls' : Array Slot, lv_has ls' nL lv' → W p l e R s m args below meth c H locs cells slots Q (F0 m (pc + 3) ls' rest)) : W p l e R s m args below meth c H locs cells slots Q (F0 m pc ls rest) :=
  lv_iinc C.1 C.2.1 hdg h hk hv hn rfl (fun ls' h' => kk ls' (q_kp.has h' hl))
theorem q_astore_n (C : CallFix p m c cc nL s args Ts own) {k : Fin 4} {i : Nat} {r : Option Nat} {lv lv' : List (Nat × Value)} (hdg : decode cc pc = .ok (.astore_n k, 1)) (hi : (k : Nat) = i) (h : lv_has ls nL lv) (hn : i < nL) (hl : q_kp i (va_rf r) lv lv')
    (kk : ∀ ls' : Array Slot, lv_has ls' nL lv' → W p l e R s m args below meth c H locs cells slots Q (F0 m (pc + 1) ls' rest)) : W p l e R s m args below meth c H locs cells slots Q (F0 m pc ls (va_rf r :: rest)) := by
  cases r with
  | none => exact lv_astore_nN C.1 C.2.1 hdg hi h hn rfl (fun ls' h' => kk ls' (q_kp.has h' hl))
  | some x => exact lv_astore_n C.1 C.2.1 hdg hi h hn rfl (fun ls' h' => kk ls' (q_kp.has h' hl))
theorem q_astore (C : CallFix p m c cc nL s args Ts own) {i : Nat} {r : Option Nat} {lv lv' : List (Nat × Value)} (hdg : decode cc pc = .ok (.astore i, 2)) (h : lv_has ls nL lv) (hn : i < nL) (hl : q_kp i (va_rf r) lv lv')
    (kk : ∀ ls' : Array Slot, lv_has ls' nL lv' → W p l e R s m args below meth c H locs cells slots Q (F0 m (pc + 2) ls' rest)) : W p l e R s m args below meth c H locs cells slots Q (F0 m pc ls (va_rf r :: rest)) := by
  cases r with
  | none => exact lv_astoreN C.1 C.2.1 hdg h hn rfl (fun ls' h' => kk ls' (q_kp.has h' hl))
  | some x => exact lv_astore C.1 C.2.1 hdg h hn rfl (fun ls' h' => kk ls' (q_kp.has h' hl))
theorem q_aload_n (C : CallFix p m c cc nL s args Ts own) {k : Fin 4} {i : Nat} {r : Option Nat} (hdg : decode cc pc = .ok (.aload_n k, 1)) (hi : (k : Nat) = i) (hl : ls[i]? = some (.val (va_rf r)))
    (kk : W p l e R s m args below meth c H locs cells slots Q (F0 m (pc + 1) ls (va_rf r :: rest))) : W p l e R s m args below meth c H locs cells slots Q (F0 m pc ls rest) := by
  cases r with
  | none => exact lv_aload_nN C.1 C.2.1 hdg hi hl kk
  | some x => exact lv_aload_n C.1 C.2.1 hdg hi hl kk
theorem q_aload (C : CallFix p m c cc nL s args Ts own) {i : Nat} {r : Option Nat} (hdg : decode cc pc = .ok (.aload i, 2)) (hl : ls[i]? = some (.val (va_rf r)))
    (kk : W p l e R s m args below meth c H locs cells slots Q (F0 m (pc + 2) ls (va_rf r :: rest))) : W p l e R s m args below meth c H locs cells slots Q (F0 m pc ls rest) := by
  cases r with
  | none => exact lv_aloadN C.1 C.2.1 hdg hl kk
  | some x => exact lv_aload C.1 C.2.1 hdg hl kk
theorem q_ifnull (C : CallFix p m c cc nL s args Ts own) {r : Option Nat} {off : Int} {tgt : Nat} (hdg : decode cc pc = .ok (.ifnull off, 3)) (ht : (pc : Int) + off = (tgt : Int))
    (kt : r = none → W p l e R s m args below meth c H locs cells slots Q (F0 m tgt ls rest)) (kf : ∀ x, r = some x → W p l e R s m args below meth c H locs cells slots Q (F0 m (pc + 3) ls rest)) : W p l e R s m args below meth c H locs cells slots Q (F0 m pc ls (va_rf r :: rest)) := by
  cases r with
  | none => exact lv_ifnullN C.1 C.2.1 hdg ht (kt rfl)
  | some x => exact lv_ifnull C.1 C.2.1 hdg (kf x rfl)
theorem q_ifnonnull (C : CallFix p m c cc nL s args Ts own) {r : Option Nat} {off : Int} {tgt : Nat} (hdg : decode cc pc = .ok (.ifnonnull off, 3)) (ht : (pc : Int) + off = (tgt : Int))
    (kt : ∀ x, r = some x → W p l e R s m args below meth c H locs cells slots Q (F0 m tgt ls rest)) (kf : r = none → W p l e R s m args below meth c H locs cells slots Q (F0 m (pc + 3) ls rest)) : W p l e R s m args below meth c H locs cells slots Q (F0 m pc ls (va_rf r :: rest)) := by
  cases r with
  | none => exact lv_ifnonnullN C.1 C.2.1 hdg (kf rfl)
  | some x => exact lv_ifnonnull C.1 C.2.1 hdg ht (kt x rfl)
/-! returns -/
theorem q_iret {post : Int32 → qS → Prop} {mc ms : Nat} {v : Int32} (C : CallFix p m c cc nL s args Ts own) (hV : q_V E s S H locs) (hr : meth.sig.returnType = some .int) (hlk : meth.locks = false) (hc : cells ≤ mc) (hs : slots ≤ ms) (hdg : decode cc pc = .ok (.ireturn, 1)) (hp : post v S) :
    W p l e R s m args below meth c H locs cells slots (MQ below (va_Qi post (q_B E) E.A) args s mc ms E.A) (F0 m pc ls [.int v]) :=
  W.widen hc hs (W.iret C.1 C.2.1 hr (fun t ht _ => ⟨⟨v, S, rfl, hp, by rw [ht]; exact hV.2.2.1, hV.2.2.2.1⟩, hV.2.2.2.2.1.F ht⟩) hV.2.2.2.2.1.2.2 hdg hlk)
theorem q_zret {post : Int32 → qS → Prop} {mc ms : Nat} {v : Int32} (C : CallFix p m c cc nL s args Ts own) (hV : q_V E s S H locs) (hr : meth.sig.returnType = some .boolean) (hlk : meth.locks = false) (hb : v = 0 ∨ v = 1) (hc : cells ≤ mc) (hs : slots ≤ ms) (hdg : decode cc pc = .ok (.ireturn, 1)) (hp : post v S) :
    W p l e R s m args below meth c H locs cells slots (MQ below (va_Qi post (q_B E) E.A) args s mc ms E.A) (F0 m pc ls [.int v]) :=
  W.widen hc hs (W.zret C.1 C.2.1 hr (by rcases hb with h | h <;> subst h <;> rfl) (fun t ht _ => ⟨⟨v, S, rfl, hp, by rw [ht]; exact hV.2.2.1, hV.2.2.2.1⟩, hV.2.2.2.2.1.F ht⟩) hV.2.2.2.2.1.2.2 hdg hlk)
theorem q_vret {post : qS → Prop} {mc ms : Nat} (C : CallFix p m c cc nL s args Ts own) (hV : q_V E s S H locs) (hr : meth.sig.returnType = none) (hlk : meth.locks = false) (hc : cells ≤ mc) (hs : slots ≤ ms) (hdg : decode cc pc = .ok (.return_, 1)) (hp : post S) :
    W p l e R s m args below meth c H locs cells slots (MQ below (va_Qv post (q_B E) E.A) args s mc ms E.A) (F0 m pc ls []) :=
  W.widen hc hs (W.vret C.1 C.2.1 hr (fun t ht _ => ⟨⟨S, rfl, hp, by rw [ht]; exact hV.2.2.1, hV.2.2.2.1⟩, hV.2.2.2.2.1.F ht⟩) hV.2.2.2.2.1.2.2 hdg hlk)
theorem q_aret {post : Option Nat → qS → Prop} {mc ms : Nat} {r : Option Nat} {n : String} (C : CallFix p m c cc nL s args Ts own) (hV : q_V E s S H locs) (hr : meth.sig.returnType = some (.object n)) (hlk : meth.locks = false) (hc : cells ≤ mc) (hs : slots ≤ ms) (hdg : decode cc pc = .ok (.areturn, 1)) (hp : post r S) :
    W p l e R s m args below meth c H locs cells slots (MQ below (va_Qq post (q_B E) E.A) args s mc ms E.A) (F0 m pc ls [va_rf r]) :=
  W.widen hc hs (W.aret C.1 C.2.1 hr (Or.inl ⟨n, rfl⟩) (va_rf_or r) (fun t ht _ => ⟨⟨r, S, rfl, hp, by rw [ht]; exact hV.2.2.1, hV.2.2.2.1⟩, hV.2.2.2.2.1.F ht⟩) hV.2.2.2.2.1.2.2 hdg hlk)
/-! calls: what goes on behind them -/
theorem q_ci {post : Int32 → qS → Prop} {mc ms : Nat} {av : Array Value} (hV : q_V E s S H locs) (hr : va_Run p l e R s m args below meth c H locs cells slots mc ms (F0 m pc ls st0) rest (va_Qi post (q_B E) E.A av) E.A)
    (kk : ∀ (r : Int32) (S1 : qS) (H1 : Heap) (locs1 : List Loc), post r S1 → q_V E s S1 H1 locs1 → W p l e R s m args below meth c H1 locs1 (cells + mc) (slots + ms) Q (F0 m (pc + 3) ls (.int r :: rest))) : W p l e R s m args below meth c H locs cells slots Q (F0 m pc ls st0) := by
  obtain ⟨hK, hZ, hP, hD, hS, hA⟩ := hV
  exact va_calli hr hS (fun _ _ h => h) (fun _ h => h) fun r u t H1 locs1 ht _ hp hB _ _ hS1 => kk r u H1 locs1 hp ⟨hK, hZ, by rw [← ht]; exact hB.1, hB.2, hS1, hA⟩
theorem q_cv {post : qS → Prop} {mc ms : Nat} {av : Array Value} (hV : q_V E s S H locs) (hr : va_Run p l e R s m args below meth c H locs cells slots mc ms (F0 m pc ls st0) rest (va_Qv post (q_B E) E.A av) E.A)
    (kk : ∀ (S1 : qS) (H1 : Heap) (locs1 : List Loc), post S1 → q_V E s S1 H1 locs1 → W p l e R s m args below meth c H1 locs1 (cells + mc) (slots + ms) Q (F0 m (pc + 3) ls rest)) : W p l e R s m args below meth c H locs cells slots Q (F0 m pc ls st0) := by
  obtain ⟨hK, hZ, hP, hD, hS, hA⟩ := hV
  exact va_callv hr hS (fun _ _ h => h) (fun _ h => h) fun u t H1 locs1 ht _ hp hB _ _ hS1 => kk u H1 locs1 hp ⟨hK, hZ, by rw [← ht]; exact hB.1, hB.2, hS1, hA⟩
theorem q_cq {post : Option Nat → qS → Prop} {mc ms : Nat} {av : Array Value} (hV : q_V E s S H locs) (hr : va_Run p l e R s m args below meth c H locs cells slots mc ms (F0 m pc ls st0) rest (va_Qq post (q_B E) E.A av) E.A)
    (kk : ∀ (r : Option Nat) (S1 : qS) (H1 : Heap) (locs1 : List Loc), post r S1 → q_V E s S1 H1 locs1 → W p l e R s m args below meth c H1 locs1 (cells + mc) (slots + ms) Q (F0 m (pc + 3) ls (va_rf r :: rest))) : W p l e R s m args below meth c H locs cells slots Q (F0 m pc ls st0) := by
  obtain ⟨hK, hZ, hP, hD, hS, hA⟩ := hV
  exact va_callq hr hS (fun _ _ h => h) (fun _ h => h) fun r u t H1 locs1 ht _ hp hB _ _ hS1 => kk r u H1 locs1 hp ⟨hK, hZ, by rw [← ht]; exact hB.1, hB.2, hS1, hA⟩
/-! calls: how they are made -/
def q_ok (y : MethodName) (n : Nat) : Prop := y.cls ≠ "java/lang/invoke/MethodHandle" ∧ y.cls ≠ "java/lang/invoke/VarHandle" ∧ (parseMethodDescriptor y.desc).map (fun d => d.parameters.length) = some n
theorem q_sig {y : MethodName} {n : Nat} (h : q_ok y n) : ∀ sig, parseMethodDescriptor y.desc = some sig → n = sig.parameters.length := fun sig h1 => by
  have h2 := h.2.2
  rw [h1] at h2
  exact (Option.some.inj h2).symm
theorem q_ws {y : MethodName} {bytes : ByteArray} {maxL : Nat} {ret : Option FieldType} (h : (Cond.code y bytes maxL ret).before args s = true) : ∀ w ∈ [Cond.code y bytes maxL ret], ∀ (a' : Array Value) (U : State), s.WarmedH U.vm → w.before a' U = true := fun w hw a' U hW => by
  rw [List.mem_singleton.mp hw]
  exact word_at hW (Or.inl rfl) h
variable {y : MethodName} {bytes : ByteArray} {maxL n index mc ms b : Nat} {ret : Option FieldType} {rm : Room} {As : List Value} {Cn : String} {Qc : Array Value → State → Outcome → State → Prop}
theorem q_rV (C : CallFix p m c cc nL s args q_T own) (hV : q_V E s S H locs) (hM : Met l y [.code y bytes maxL ret] rm (va_Pc (.ref b :: As) (q_I E S)) Qc mc ms E.A)
    (hco : Cond.code y bytes maxL ret ∈ q_T) (hl : Cond.methodLink own index y ∈ q_T) (hin : Cond.instanceMethod y ∈ q_T) (hse : Cond.selects Cn y y ∈ q_T) (hini : Cond.initialized y.cls ∈ q_T) (hy : q_ok y n) (hrm : rm.cells = mc ∧ rm.slots = ms ∧ rm.frames + 1 ≤ R.frames ∧ 8 + (maxL + 11) + rm.locals ≤ R.locals)
    (hrc : ∃ cell : Cell, H[b]? = some cell ∧ cell.vm.isStatics = false ∧ s.vm.findClass Cn = some cell.cls) (hn : As.length = n) (hsz : ls.size = nL) (hst : st0 = As.reverse ++ .ref b :: rest) (hW : (rest.map fun v => v.category).sum ≤ 8) (hdg : decode cc pc = .ok (.invokevirtual index, 3)) (hf : cells + mc ≤ R.cells ∧ slots + ms ≤ R.slots) :
    va_Run p l e R s m args below meth c H locs cells slots mc ms (F0 m pc ls st0) rest (Qc (Value.ref b :: As).toArray) E.A := by
  have hts := C.2.2.2.2
  exact va_runV (C := Cn) (As := As) (b := b) C hM ⟨⟨hrm.1, hrm.2.1, hrm.2.2.1, hrm.2.2.2, q_ws (hts _ hco), List.mem_singleton.mpr rfl, hts _ hco, hts _ hini, ⟨hy.1, hy.2.1⟩, q_sig hy, hts _ hl⟩, hts _ hin, hts _ hse⟩
    ⟨fun a U g mk q => ⟨q.1, q.2.blind g mk a⟩, hrc, fun U hU hW => ⟨rfl, hV.pre hU hW⟩⟩ rfl hn hsz hst (lv_room hW) hdg hf
theorem q_rN {host : String} (C : CallFix p m c cc nL s args q_T own) (hV : q_V E s S H locs) (hM : Met l y [.code y bytes maxL ret] rm (va_Pc (.ref b :: As) (q_I E S)) Qc mc ms E.A)
    (hco : Cond.code y bytes maxL ret ∈ q_T) (hl : Cond.methodLinkNest own index y host ∈ q_T) (hin : Cond.instanceMethod y ∈ q_T) (hse : Cond.selects Cn y y ∈ q_T) (hini : Cond.initialized y.cls ∈ q_T) (hy : q_ok y n) (hrm : rm.cells = mc ∧ rm.slots = ms ∧ rm.frames + 1 ≤ R.frames ∧ 8 + (maxL + 11) + rm.locals ≤ R.locals)
    (hrc : ∃ cell : Cell, H[b]? = some cell ∧ cell.vm.isStatics = false ∧ s.vm.findClass Cn = some cell.cls) (hn : As.length = n) (hsz : ls.size = nL) (hst : st0 = As.reverse ++ .ref b :: rest) (hW : (rest.map fun v => v.category).sum ≤ 8) (hdg : decode cc pc = .ok (.invokevirtual index, 3)) (hf : cells + mc ≤ R.cells ∧ slots + ms ≤ R.slots) :
    va_Run p l e R s m args below meth c H locs cells slots mc ms (F0 m pc ls st0) rest (Qc (Value.ref b :: As).toArray) E.A := by
  have hts := C.2.2.2.2
  exact va_runVN (C := Cn) (As := As) (b := b) (host := host) C hM ⟨⟨⟨hrm.1, hrm.2.1, hrm.2.2.1, hrm.2.2.2, q_ws (hts _ hco), List.mem_singleton.mpr rfl⟩, hts _ hco, hts _ hini, ⟨hy.1, hy.2.1⟩, q_sig hy, hts _ hl⟩, hts _ hin, hts _ hse⟩
    ⟨fun a U g mk q => ⟨q.1, q.2.blind g mk a⟩, hrc, fun U hU hW => ⟨rfl, hV.pre hU hW⟩⟩ rfl hn hsz hst (lv_room hW) hdg hf
theorem q_rS (C : CallFix p m c cc nL s args q_T own) (hV : q_V E s S H locs) (hM : Met l y [.code y bytes maxL ret] rm (va_Pc As (q_I E S)) Qc mc ms E.A)
    (hco : Cond.code y bytes maxL ret ∈ q_T) (hl : Cond.methodLink own index y ∈ q_T) (hstt : Cond.static y ∈ q_T) (hini : Cond.initialized y.cls ∈ q_T) (hy : q_ok y n) (hrm : rm.cells = mc ∧ rm.slots = ms ∧ rm.frames + 1 ≤ R.frames ∧ 8 + (maxL + 11) + rm.locals ≤ R.locals)
    (hn : As.length = n) (hsz : ls.size = nL) (hst : st0 = As.reverse ++ rest) (hW : (rest.map fun v => v.category).sum ≤ 8) (hdg : decode cc pc = .ok (.invokestatic index, 3)) (hf : cells + mc ≤ R.cells ∧ slots + ms ≤ R.slots) :
    va_Run p l e R s m args below meth c H locs cells slots mc ms (F0 m pc ls st0) rest (Qc As.toArray) E.A := by
  have hts := C.2.2.2.2
  exact va_runS (As := As) C hM ⟨⟨hrm.1, hrm.2.1, hrm.2.2.1, hrm.2.2.2, q_ws (hts _ hco), List.mem_singleton.mpr rfl, hts _ hco, hts _ hini, ⟨hy.1, hy.2.1⟩, q_sig hy, hts _ hl⟩, hts _ hstt⟩
    ⟨fun a U g mk q => ⟨q.1, q.2.blind g mk a⟩, fun U hU hW => ⟨rfl, hV.pre hU hW⟩⟩ rfl hn hsz hst (lv_room hW) hdg hf
theorem q_rI (C : CallFix p m c cc nL s args q_T own) (hV : q_V E s S H locs) (hM : Met l y [.code y bytes maxL none] rm (va_Pc (.ref b :: As) (q_I E S)) Qc mc ms E.A)
    (hco : Cond.code y bytes maxL none ∈ q_T) (hl : Cond.methodLink own index y ∈ q_T ∨ ∃ host, Cond.methodLinkNest own index y host ∈ q_T) (hin : Cond.instanceMethod y ∈ q_T) (hini : Cond.initialized y.cls ∈ q_T) (hnm : y.name = "<init>") (hy : q_ok y n) (hrm : rm.cells = mc ∧ rm.slots = ms ∧ rm.frames + 1 ≤ R.frames ∧ 8 + (maxL + 11) + rm.locals ≤ R.locals)
    (hn : As.length = n) (hsz : ls.size = nL) (hst : st0 = As.reverse ++ .ref b :: rest) (hW : (rest.map fun v => v.category).sum ≤ 8) (hdg : decode cc pc = .ok (.invokespecial index, 3)) (hf : cells + mc ≤ R.cells ∧ slots + ms ≤ R.slots) :
    va_Run p l e R s m args below meth c H locs cells slots mc ms (F0 m pc ls st0) rest (Qc (Value.ref b :: As).toArray) E.A := by
  have hts := C.2.2.2.2
  rcases hl with hl | ⟨host, hl⟩
  · exact va_runI (As := As) (b := b) C hM ⟨⟨hrm.1, hrm.2.1, hrm.2.2.1, hrm.2.2.2, q_ws (hts _ hco), List.mem_singleton.mpr rfl, hts _ hco, hts _ hini, ⟨hy.1, hy.2.1⟩, q_sig hy, hts _ hl⟩, hnm, hts _ hin⟩
      ⟨fun a U g mk q => ⟨q.1, q.2.blind g mk a⟩, fun U hU hW => ⟨rfl, hV.pre hU hW⟩⟩ rfl hn hsz hst (lv_room hW) hdg hf
  · exact va_runIN (As := As) (b := b) (host := host) C hM ⟨⟨⟨hrm.1, hrm.2.1, hrm.2.2.1, hrm.2.2.2, q_ws (hts _ hco), List.mem_singleton.mpr rfl⟩, hts _ hco, hts _ hini, ⟨hy.1, hy.2.1⟩, q_sig hy, hts _ hl⟩, hnm, hts _ hin⟩
      ⟨fun a U g mk q => ⟨q.1, q.2.blind g mk a⟩, fun U hU hW => ⟨rfl, hV.pre hU hW⟩⟩ rfl hn hsz hst (lv_room hW) hdg hf
theorem q_recv (hV : q_V E s S H locs) {ci : Nat} {q : vw_C} (he : ∃ (i : Nat) (fs : List Value), (q_w E S)[i]? = some (a, .inr (ci, fs))) (hc : vwCl[ci]? = some q) : ∃ cell : Cell, H[a]? = some cell ∧ cell.vm.isStatics = false ∧ s.vm.findClass q.1 = some cell.cls := by
  obtain ⟨i, fs, h⟩ := he
  exact va_recv hV.1.1 hV.2.2.1 hc h
theorem q_rc0 (hV : q_V E s S H locs) (hL : a ∈ S.L) (hK : S.K a = 0) : ∃ cell : Cell, H[a]? = some cell ∧ cell.vm.isStatics = false ∧ s.vm.findClass RX0 = some cell.cls := by
  obtain ⟨i, -, h⟩ := q_g0 E S hL hK; exact q_recv (q := (RX0, TX0, 7)) hV ⟨i, _, h⟩ rfl
theorem q_rc1 (hV : q_V E s S H locs) (hL : a ∈ S.L) (hK : S.K a = 1) : ∃ cell : Cell, H[a]? = some cell ∧ cell.vm.isStatics = false ∧ s.vm.findClass RX1 = some cell.cls := by
  obtain ⟨i, -, h⟩ := q_g1 E S hL hK; exact q_recv (q := (RX1, TX1, 4)) hV ⟨i, _, h⟩ rfl
theorem q_rc2 (hV : q_V E s S H locs) (hL : a ∈ S.L) (hK : S.K a = 2) : ∃ cell : Cell, H[a]? = some cell ∧ cell.vm.isStatics = false ∧ s.vm.findClass RX2 = some cell.cls := by
  obtain ⟨i, -, h⟩ := q_g2 E S hL hK; exact q_recv (q := (RX2, TX2, 3)) hV ⟨i, _, h⟩ rfl
theorem q_rc3 (hV : q_V E s S H locs) (hL : a ∈ S.L) (hK : S.K a = 3) : ∃ cell : Cell, H[a]? = some cell ∧ cell.vm.isStatics = false ∧ s.vm.findClass RX3 = some cell.cls := by
  obtain ⟨i, -, h⟩ := q_g3 E S hL hK; exact q_recv (q := (RX3, TX3, 1)) hV ⟨i, _, h⟩ rfl
theorem q_rc4 (hV : q_V E s S H locs) (hL : a ∈ S.L) (hK : S.K a = 4) : ∃ cell : Cell, H[a]? = some cell ∧ cell.vm.isStatics = false ∧ s.vm.findClass RX4 = some cell.cls := by
  obtain ⟨i, -, h⟩ := q_g4 E S hL hK; exact q_recv (q := (RX4, TX4, 4)) hV ⟨i, _, h⟩ rfl
theorem q_rc5 (hV : q_V E s S H locs) (hL : a ∈ S.L) (hK : S.K a = 5) : ∃ cell : Cell, H[a]? = some cell ∧ cell.vm.isStatics = false ∧ s.vm.findClass RX5 = some cell.cls := by
  obtain ⟨i, -, h⟩ := q_g5 E S hL hK; exact q_recv (q := (RX5, TX5, 6)) hV ⟨i, _, h⟩ rfl
theorem q_objInit (C : CallFix p m c cc nL s args q_T own) {idx : Nat} (hl : Cond.methodLink own idx objectInit ∈ q_T) (hi : Cond.instanceMethod objectInit ∈ q_T) (hco : Cond.code objectInit ⟨#[0xb1]⟩ 1 none ∈ q_T) (hsz : ls.size = nL) (hdg : decode cc pc = .ok (.invokespecial idx, 3)) (hfr : 1 ≤ R.frames) (hlo : (rest.map fun v => v.category).sum + 12 ≤ R.locals)
    (kk : W p l e R s m args below meth c H locs cells slots Q (F0 m (pc + 3) ls rest)) : W p l e R s m args below meth c H locs cells slots Q (F0 m pc ls (.ref a :: rest)) := by
  have hts := C.2.2.2.2
  exact W.objInit C.1 C.2.1 C.2.2.2.1 (hts _ hl) (hts _ hi) (hts _ hco) rfl (hsz.trans C.2.2.1.symm) rfl hdg hfr (by show 2 * 0 + _ + 12 ≤ _; omega) kk
end QR
end
section
section QA
theorem qF_6 (cI cR : ClassId) (S : qS) {a : Nat} (h : S.K a = 6) : qF cI cR S a = .inl (cI, S.N a, .inl (S.A a)) := by unfold qF; rw [h]; rfl
theorem qF_7 (cI cR : ClassId) (S : qS) {a : Nat} (h : S.K a = 7) : qF cI cR S a = .inl (cR, S.N a, .inr (.inr (.inr (.inr (S.B a))))) := by unfold qF; rw [h]; rfl
theorem q_g6 (E : qE) (S : qS) {a : Nat} (hL : a ∈ S.L) (h : S.K a = 6) : ∃ i : Nat, (q_w E S)[i]? = some (a, qF E.cI E.cR S a) ∧ (q_w E S)[i]? = some (a, .inl (E.cI, S.N a, .inl (S.A a))) := by
  obtain ⟨i, hi⟩ := va_pl_get (X := E.X) (f := qF E.cI E.cR S) hL
  exact ⟨i, hi, hi.trans (congrArg (fun e => some (a, e)) (qF_6 E.cI E.cR S h))⟩
theorem q_g7 (E : qE) (S : qS) {a : Nat} (hL : a ∈ S.L) (h : S.K a = 7) : ∃ i : Nat, (q_w E S)[i]? = some (a, qF E.cI E.cR S a) ∧ (q_w E S)[i]? = some (a, .inl (E.cR, S.N a, .inr (.inr (.inr (.inr (S.B a)))))) := by
  obtain ⟨i, hi⟩ := va_pl_get (X := E.X) (f := qF E.cI E.cR S) hL
  exact ⟨i, hi, hi.trans (congrArg (fun e => some (a, e)) (qF_7 E.cI E.cR S h))⟩
theorem qA_ne (S : qS) (a i : Nat) (v : Int32) {b : Nat} (hb : b ≠ a) : (S.sA a i v).A b = S.A b := va_up_ne _ _ hb
theorem qB_ne (S : qS) (a i : Nat) (v : Option Nat) {b : Nat} (hb : b ≠ a) : (S.sB a i v).B b = S.B b := va_up_ne _ _ hb
theorem qA_is (S : qS) (a i : Nat) (v : Int32) : (S.sA a i v).A a = upd (S.A a) i v := va_up_self _ _ _
theorem qB_is (S : qS) (a i : Nat) (v : Option Nat) : (S.sB a i v).B a = va_up (S.B a) i v := va_up_self _ _ _
theorem qF_sA_ne (cI cR : ClassId) (S : qS) (a i : Nat) (v : Int32) {b : Nat} (hb : b ≠ a) : qF cI cR (S.sA a i v) b = qF cI cR S b := by
  unfold qF; rw [qA_ne S a i v hb]; rfl
theorem qF_sB_ne (cI cR : ClassId) (S : qS) (a i : Nat) (v : Option Nat) {b : Nat} (hb : b ≠ a) : qF cI cR (S.sB a i v) b = qF cI cR S b := by
  unfold qF; rw [qB_ne S a i v hb]; rfl
theorem qF_nA_ne (cI cR : ClassId) (S : qS) (q n : Nat) {b : Nat} (hb : b ≠ q) : qF cI cR (S.nA q n) b = qF cI cR S b := by
  have h1 : (S.nA q n).K b = S.K b := va_up_ne _ _ hb
  have h2 : (S.nA q n).N b = S.N b := va_up_ne _ _ hb
  have h3 : (S.nA q n).A b = S.A b := va_up_ne _ _ hb
  unfold qF; simp only [h1, h2, h3]; rfl
theorem qF_nB_ne (cI cR : ClassId) (S : qS) (q n : Nat) {b : Nat} (hb : b ≠ q) : qF cI cR (S.nB q n) b = qF cI cR S b := by
  have h1 : (S.nB q n).K b = S.K b := va_up_ne _ _ hb
  have h2 : (S.nB q n).N b = S.N b := va_up_ne _ _ hb
  have h3 : (S.nB q n).B b = S.B b := va_up_ne _ _ hb
  unfold qF; simp only [h1, h2, h3]; rfl
variable {p : Program} {l : Launch} {e : Env} {R : Room} {s : State} {m : MethodId} {args : Array Value} {below : List Frame} {meth : Method} {c : Code} {H : Heap} {locs : List Loc} {cells slots : Nat} {Q : State → Prop}
variable {cc : ByteArray} {nL pc : Nat} {ls : Array Slot} {rest st0 : List Value} {own : String} {E : qE} {S : qS} {a : Nat} {Ts : List Cond}
theorem q_iald (C : CallFix p m c cc nL s args q_T own) (hV : q_V E s S H locs) (hL : a ∈ S.L) (hK : S.K a = 6) {i : Int32} {j : Nat} (hi : i = nI j) (hj : j < S.N a) (hN : S.N a < 2 ^ 31) (hdg : decode cc pc = .ok (.iaload, 1))
    (kk : W p l e R s m args below meth c H locs cells slots Q (F0 m (pc + 1) ls (.int (S.A a j) :: rest))) : W p l e R s m args below meth c H locs cells slots Q (F0 m pc ls (.int i :: .ref a :: rest)) := by
  obtain ⟨k, -, h⟩ := q_g6 E S hL hK
  subst hi
  refine va_iald C.1 C.2.1 hV.1.1 hV.2.2.1 k 0 h rfl (vp_in_nI hj hN) hdg ?_
  rw [nI_clamp (Nat.lt_trans hj hN)]
  exact kk
theorem q_aald (C : CallFix p m c cc nL s args q_T own) (hV : q_V E s S H locs) (hL : a ∈ S.L) (hK : S.K a = 7) {i : Int32} {j : Nat} (hi : i = nI j) (hj : j < S.N a) (hN : S.N a < 2 ^ 31) (hdg : decode cc pc = .ok (.aaload, 1))
    (kk : W p l e R s m args below meth c H locs cells slots Q (F0 m (pc + 1) ls (va_rf (S.B a j) :: rest))) : W p l e R s m args below meth c H locs cells slots Q (F0 m pc ls (.int i :: .ref a :: rest)) := by
  obtain ⟨k, -, h⟩ := q_g7 E S hL hK
  subst hi
  refine va_aldq C.1 C.2.1 hV.1.1 hV.2.2.1 k 1 h rfl (vp_in_nI hj hN) hdg ?_
  rw [nI_clamp (Nat.lt_trans hj hN)]
  exact kk
theorem q_iast (C : CallFix p m c cc nL s args q_T own) (hV : q_V E s S H locs) (hL : a ∈ S.L) (hK : S.K a = 6) {i x : Int32} {j : Nat} (hi : i = nI j) (hj : j < S.N a) (hN : S.N a < 2 ^ 31) (hdg : decode cc pc = .ok (.iastore, 1))
    (kk : ∀ (H1 : Heap) (locs1 : List Loc), q_V E s (S.sA a j x) H1 locs1 → W p l e R s m args below meth c H1 locs1 cells slots Q (F0 m (pc + 1) ls rest)) : W p l e R s m args below meth c H locs cells slots Q (F0 m pc ls (.int x :: .int i :: .ref a :: rest)) := by
  obtain ⟨k, h0, h⟩ := q_g6 E S hL hK
  subst hi
  obtain ⟨vK, vZ, hP, hD, hS, hA⟩ := hV
  refine va_iast C.1 C.2.1 vK.1 hP hD hS k 0 h rfl (vp_in_nI hj hN) hdg fun H1 locs1 g1 g2 g3 => ?_
  have e1 : (q_w E S).set k (a, .inl (E.cI, S.N a, .inl (upd (S.A a) j x))) = q_w E (S.sA a j x) := q_set E rfl hD hL h0 (by rw [qF_6 _ _ _ (show (S.sA a j x).K a = 6 from hK), qA_is]; rfl) (fun b hb => qF_sA_ne _ _ _ _ _ _ hb)
  rw [nI_clamp (Nat.lt_trans hj hN), e1] at g1 g2
  exact kk H1 locs1 ⟨vK, vZ, g1, g2, g3, hA⟩
theorem q_aast (C : CallFix p m c cc nL s args q_T own) (hV : q_V E s S H locs) (hL : a ∈ S.L) (hK : S.K a = 7) {v : Nat} (hLv : v ∈ S.L) (hKv : S.K v = 1) {i : Int32} {j : Nat} (hi : i = nI j) (hj : j < S.N a) (hN : S.N a < 2 ^ 31) (hdg : decode cc pc = .ok (.aastore, 1))
    (kk : ∀ (H1 : Heap) (locs1 : List Loc), q_V E s (S.sB a j (some v)) H1 locs1 → W p l e R s m args below meth c H1 locs1 cells slots Q (F0 m (pc + 1) ls rest)) : W p l e R s m args below meth c H locs cells slots Q (F0 m pc ls (.ref v :: .int i :: .ref a :: rest)) := by
  obtain ⟨k, h0, h⟩ := q_g7 E S hL hK
  obtain ⟨k2, -, h2⟩ := q_g1 E S hLv hKv
  subst hi
  obtain ⟨vK, vZ, hP, hD, hS, hA⟩ := hV
  refine va_astq (r := (RX1, TX1, 4)) C.1 C.2.1 vK.1 hP hD hS k 1 k2 1 h rfl h2 rfl (vp_in_nI hj hN) hdg fun H1 locs1 g1 g2 g3 => ?_
  have e1 : (q_w E S).set k (a, .inl (E.cR, S.N a, .inr (.inr (.inr (.inr (va_up (S.B a) j (some v))))))) = q_w E (S.sB a j (some v)) := q_set E rfl hD hL h0 (by rw [qF_7 _ _ _ (show (S.sB a j (some v)).K a = 7 from hK), qB_is]; rfl) (fun b hb => qF_sB_ne _ _ _ _ _ _ hb)
  rw [nI_clamp (Nat.lt_trans hj hN), e1] at g1 g2
  exact kk H1 locs1 ⟨vK, vZ, g1, g2, g3, hA⟩
theorem q_len6 (C : CallFix p m c cc nL s args q_T own) (hV : q_V E s S H locs) (hL : a ∈ S.L) (hK : S.K a = 6) (hdg : decode cc pc = .ok (.arraylength, 1))
    (kk : W p l e R s m args below meth c H locs cells slots Q (F0 m (pc + 1) ls (.int (nI (S.N a)) :: rest))) : W p l e R s m args below meth c H locs cells slots Q (F0 m pc ls (.ref a :: rest)) := by
  obtain ⟨k, -, h⟩ := q_g6 E S hL hK
  exact va_alen C.1 C.2.1 hV.1.1 hV.2.2.1 k 0 h rfl rfl hdg kk
theorem q_len7 (C : CallFix p m c cc nL s args q_T own) (hV : q_V E s S H locs) (hL : a ∈ S.L) (hK : S.K a = 7) (hdg : decode cc pc = .ok (.arraylength, 1))
    (kk : W p l e R s m args below meth c H locs cells slots Q (F0 m (pc + 1) ls (.int (nI (S.N a)) :: rest))) : W p l e R s m args below meth c H locs cells slots Q (F0 m pc ls (.ref a :: rest)) := by
  obtain ⟨k, -, h⟩ := q_g7 E S hL hK
  exact va_alen C.1 C.2.1 hV.1.1 hV.2.2.1 k 1 h rfl rfl hdg kk
theorem q_newI (C : CallFix p m c cc nL s args q_T own) (hV : q_V E s S H locs) {n : Int32} {k : Nat} (hn : n = nI k) (hk : k < 2 ^ 24) (hcells : cells + 1 ≤ R.cells) (hslots : slots + k ≤ R.slots) (hdg : decode cc pc = .ok (.newarray .int, 2))
    (kk : ∀ (q : Nat) (H1 : Heap), q ∉ S.L → q_V E s (S.nA q k) H1 locs → W p l e R s m args below meth c H1 locs (cells + 1) (slots + k) Q (F0 m (pc + 2) ls (.ref q :: rest))) : W p l e R s m args below meth c H locs cells slots Q (F0 m pc ls (.int n :: rest)) := by
  obtain ⟨vK, vZ, hP, hD, hS, hA⟩ := hV
  subst hn
  have b1 : k * componentBytes .int ≤ 536870912 := by
    have : componentBytes .int = 4 := rfl
    rw [this]
    omega
  have b2 : k < 2 ^ 31 := by omega
  have b3 : ¬ nI k < 0 := nI_pos b2
  have b4 : (nI k).toNatClampNeg = k := nI_clamp b2
  have b5 : ∀ cA : ClassId, vp_cell cA (k, .inl (fun _ => 0)) = arrV cA k (fun _ => defaultValue .int) := fun cA => vp_cell_i cA k _
  refine va_newa (atype := .int) (a0 := (k, .inl (fun _ => 0))) (N' := k) C.1 C.2.1 (vK.2.2.2.2.1 args) (ty := .int) rfl vK.1 hP hD hS hA b5 b3 b4 b1 hcells hslots hdg fun q cA H1 g0 g1 g2 g3 => ?_
  have hq : q ∉ S.L := va_pl_fresh2 g2
  have hcA : cA = E.cI := by
    have h1 : s.vm.findClass ("[" ++ FieldType.int.toString) = some cA := (g0.2 3 (cA, .int) rfl).2
    have h2 : s.vm.findClass ("[" ++ FieldType.int.toString) = some E.cI := (vK.1.2 0 (E.cI, .int) rfl).2
    exact Option.some.inj (h1.symm.trans h2)
  subst hcA
  have e1 : q_w E S ++ [(q, .inl (E.cI, k, .inl (fun _ => 0)))] = q_w E (S.nA q k) := q_add E rfl hq (by
    have hK1 : (S.nA q k).K q = 6 := va_up_self _ _ _
    have h2 : (S.nA q k).N q = k := va_up_self _ _ _
    have h3 : (S.nA q k).A q = fun _ => 0 := va_up_self _ _ _
    rw [qF_6 _ _ _ hK1, h2, h3]) (fun b hb => qF_nA_ne _ _ _ _ _ hb)
  rw [e1] at g1 g2
  exact kk q H1 hq ⟨vK, vZ, g1, g2, g3, hA⟩
theorem q_newB (C : CallFix p m c cc nL s args q_T own) (hV : q_V E s S H locs) {index : Nat} (hcl : Cond.classLink own index RX1 ∈ q_T) {n : Int32} {k : Nat} (hn : n = nI k) (hk : k < 2 ^ 24) (hcells : cells + 1 ≤ R.cells) (hslots : slots + k ≤ R.slots) (hdg : decode cc pc = .ok (.anewarray index, 3))
    (kk : ∀ (q : Nat) (H1 : Heap), q ∉ S.L → q_V E s (S.nB q k) H1 locs → W p l e R s m args below meth c H1 locs (cells + 1) (slots + k) Q (F0 m (pc + 3) ls (.ref q :: rest))) : W p l e R s m args below meth c H locs cells slots Q (F0 m pc ls (.int n :: rest)) := by
  obtain ⟨vK, vZ, hP, hD, hS, hA⟩ := hV
  subst hn
  refine va_newq (N' := k) C.1 C.2.1 C.2.2.2.1 (C.2.2.2.2 _ hcl) vK.2.2.1 vK.1 hP hD hS hA (nI_pos (by omega)) (nI_clamp (by omega)) (by omega) hcells hslots hdg fun q cA H1 g0 g1 g2 g3 => ?_
  have hq : q ∉ S.L := va_pl_fresh2 g2
  have hcA : cA = E.cR := by
    obtain ⟨_, _, _, _, _, h1⟩ := (g0.2 3 (cA, .object RX1) rfl).2
    obtain ⟨_, _, _, _, _, h2⟩ := (vK.1.2 1 (E.cR, .object RX1) rfl).2
    exact Option.some.inj (h1.symm.trans h2)
  subst hcA
  have e1 : q_w E S ++ [(q, .inl (E.cR, k, .inr (.inr (.inr (.inr (fun _ => none))))))] = q_w E (S.nB q k) := q_add E rfl hq (by
    have hK1 : (S.nB q k).K q = 7 := va_up_self _ _ _
    have h2 : (S.nB q k).N q = k := va_up_self _ _ _
    have h3 : (S.nB q k).B q = fun _ => none := va_up_self _ _ _
    rw [qF_7 _ _ _ hK1, h2, h3]) (fun b hb => qF_nB_ne _ _ _ _ _ hb)
  rw [e1] at g1 g2
  exact kk q H1 hq ⟨vK, vZ, g1, g2, g3, hA⟩
end QA
end
section
section QN
variable {p : Program} {l : Launch} {e : Env} {R : Room} {s : State} {m : MethodId} {args : Array Value} {below : List Frame} {meth : Method} {c : Code} {H : Heap} {locs : List Loc} {cells slots : Nat} {Q : State → Prop}
variable {pc : Nat} {ls : Array Slot} {rest : List Value}
/-- the reference on top gets a name -/
theorem q_nr {v : Option Nat} (k : ∀ r : Option Nat, r = v → W p l e R s m args below meth c H locs cells slots Q (F0 m pc ls (va_rf r :: rest))) : W p l e R s m args below meth c H locs cells slots Q (F0 m pc ls (va_rf v :: rest)) := k v rfl
/-- what is on top, said otherwise -/
theorem q_tr {v v' : Option Nat} (h : v = v') (k : W p l e R s m args below meth c H locs cells slots Q (F0 m pc ls (va_rf v' :: rest))) : W p l e R s m args below meth c H locs cells slots Q (F0 m pc ls (va_rf v :: rest)) := by subst h; exact k
theorem q_ti {v v' : Int32} (h : v = v') (k : W p l e R s m args below meth c H locs cells slots Q (F0 m pc ls (.int v' :: rest))) : W p l e R s m args below meth c H locs cells slots Q (F0 m pc ls (.int v :: rest)) := by subst h; exact k
theorem q_tl {v v' : Int64} (h : v = v') (k : W p l e R s m args below meth c H locs cells slots Q (F0 m pc ls (.long v' :: rest))) : W p l e R s m args below meth c H locs cells slots Q (F0 m pc ls (.long v :: rest)) := by subst h; exact k
end QN
theorem ok_L_count : q_ok yL_count 3 := ⟨by decide +kernel, by decide +kernel, by decide +kernel⟩
theorem ok_L_free : q_ok yL_free 4 := ⟨by decide +kernel, by decide +kernel, by decide +kernel⟩
theorem ok_L_give : q_ok yL_give 3 := ⟨by decide +kernel, by decide +kernel, by decide +kernel⟩
theorem ok_L_join : q_ok yL_join 3 := ⟨by decide +kernel, by decide +kernel, by decide +kernel⟩
theorem ok_L_law : q_ok yL_law 1 := ⟨by decide +kernel, by decide +kernel, by decide +kernel⟩
theorem ok_L_space : q_ok yL_space 3 := ⟨by decide +kernel, by decide +kernel, by decide +kernel⟩
theorem ok_L_suffices : q_ok yL_suffices 3 := ⟨by decide +kernel, by decide +kernel, by decide +kernel⟩
theorem ok_L_take : q_ok yL_take 3 := ⟨by decide +kernel, by decide +kernel, by decide +kernel⟩
theorem ok_X0_init : q_ok yX0_init 3 := ⟨by decide +kernel, by decide +kernel, by decide +kernel⟩
theorem ok_X0_isCrumb : q_ok yX0_isCrumb 0 := ⟨by decide +kernel, by decide +kernel, by decide +kernel⟩
theorem ok_X0_isShelved : q_ok yX0_isShelved 0 := ⟨by decide +kernel, by decide +kernel, by decide +kernel⟩
theorem ok_X1_drop : q_ok yX1_drop 1 := ⟨by decide +kernel, by decide +kernel, by decide +kernel⟩
theorem ok_X1_init : q_ok yX1_init 1 := ⟨by decide +kernel, by decide +kernel, by decide +kernel⟩
theorem ok_X1_kthLatest : q_ok yX1_kthLatest 1 := ⟨by decide +kernel, by decide +kernel, by decide +kernel⟩
theorem ok_X1_push : q_ok yX1_push 1 := ⟨by decide +kernel, by decide +kernel, by decide +kernel⟩
theorem ok_X2_clear : q_ok yX2_clear 0 := ⟨by decide +kernel, by decide +kernel, by decide +kernel⟩
theorem ok_X2_init : q_ok yX2_init 0 := ⟨by decide +kernel, by decide +kernel, by decide +kernel⟩
theorem ok_X2_piecesIn : q_ok yX2_piecesIn 2 := ⟨by decide +kernel, by decide +kernel, by decide +kernel⟩
theorem ok_X2_pullOut : q_ok yX2_pullOut 1 := ⟨by decide +kernel, by decide +kernel, by decide +kernel⟩
theorem ok_X2_putIn : q_ok yX2_putIn 1 := ⟨by decide +kernel, by decide +kernel, by decide +kernel⟩
theorem ok_X2_rowOf : q_ok yX2_rowOf 1 := ⟨by decide +kernel, by decide +kernel, by decide +kernel⟩
theorem ok_X2_smallestFrom : q_ok yX2_smallestFrom 1 := ⟨by decide +kernel, by decide +kernel, by decide +kernel⟩
theorem ok_X2_wrongInRow : q_ok yX2_wrongInRow 2 := ⟨by decide +kernel, by decide +kernel, by decide +kernel⟩
theorem ok_X2_wrongThings : q_ok yX2_wrongThings 2 := ⟨by decide +kernel, by decide +kernel, by decide +kernel⟩
theorem ok_X3_hang : q_ok yX3_hang 3 := ⟨by decide +kernel, by decide +kernel, by decide +kernel⟩
theorem ok_X3_heirOf : q_ok yX3_heirOf 1 := ⟨by decide +kernel, by decide +kernel, by decide +kernel⟩
theorem ok_X3_init : q_ok yX3_init 0 := ⟨by decide +kernel, by decide +kernel, by decide +kernel⟩
theorem ok_X3_leastFrom : q_ok yX3_leastFrom 1 := ⟨by decide +kernel, by decide +kernel, by decide +kernel⟩
theorem ok_X3_parentFor : q_ok yX3_parentFor 1 := ⟨by decide +kernel, by decide +kernel, by decide +kernel⟩
theorem ok_X3_remove : q_ok yX3_remove 1 := ⟨by decide +kernel, by decide +kernel, by decide +kernel⟩
theorem ok_X3_rowMadeFor : q_ok yX3_rowMadeFor 1 := ⟨by decide +kernel, by decide +kernel, by decide +kernel⟩
theorem ok_X3_rowOf : q_ok yX3_rowOf 1 := ⟨by decide +kernel, by decide +kernel, by decide +kernel⟩
theorem ok_X4_beginningAt : q_ok yX4_beginningAt 1 := ⟨by decide +kernel, by decide +kernel, by decide +kernel⟩
theorem ok_X4_count : q_ok yX4_count 1 := ⟨by decide +kernel, by decide +kernel, by decide +kernel⟩
theorem ok_X4_cover : q_ok yX4_cover 1 := ⟨by decide +kernel, by decide +kernel, by decide +kernel⟩
theorem ok_X4_crumbCells : q_ok yX4_crumbCells 0 := ⟨by decide +kernel, by decide +kernel, by decide +kernel⟩
theorem ok_X4_crumbs : q_ok yX4_crumbs 0 := ⟨by decide +kernel, by decide +kernel, by decide +kernel⟩
theorem ok_X4_cut : q_ok yX4_cut 2 := ⟨by decide +kernel, by decide +kernel, by decide +kernel⟩
theorem ok_X4_faults : q_ok yX4_faults 0 := ⟨by decide +kernel, by decide +kernel, by decide +kernel⟩
theorem ok_X4_free : q_ok yX4_free 2 := ⟨by decide +kernel, by decide +kernel, by decide +kernel⟩
theorem ok_X4_freeCells : q_ok yX4_freeCells 0 := ⟨by decide +kernel, by decide +kernel, by decide +kernel⟩
theorem ok_X4_give : q_ok yX4_give 1 := ⟨by decide +kernel, by decide +kernel, by decide +kernel⟩
theorem ok_X4_greatestFree : q_ok yX4_greatestFree 0 := ⟨by decide +kernel, by decide +kernel, by decide +kernel⟩
theorem ok_X4_holding : q_ok yX4_holding 1 := ⟨by decide +kernel, by decide +kernel, by decide +kernel⟩
theorem ok_X4_init : q_ok yX4_init 0 := ⟨by decide +kernel, by decide +kernel, by decide +kernel⟩
theorem ok_X4_join : q_ok yX4_join 1 := ⟨by decide +kernel, by decide +kernel, by decide +kernel⟩
theorem ok_X4_joinAll : q_ok yX4_joinAll 0 := ⟨by decide +kernel, by decide +kernel, by decide +kernel⟩
theorem ok_X4_piece : q_ok yX4_piece 1 := ⟨by decide +kernel, by decide +kernel, by decide +kernel⟩
theorem ok_X4_requireSize : q_ok yX4_requireSize 1 := ⟨by decide +kernel, by decide +kernel, by decide +kernel⟩
theorem ok_X4_shelvedPieces : q_ok yX4_shelvedPieces 0 := ⟨by decide +kernel, by decide +kernel, by decide +kernel⟩
theorem ok_X4_space : q_ok yX4_space 1 := ⟨by decide +kernel, by decide +kernel, by decide +kernel⟩
theorem ok_X4_startWith : q_ok yX4_startWith 1 := ⟨by decide +kernel, by decide +kernel, by decide +kernel⟩
theorem ok_X4_suffices : q_ok yX4_suffices 1 := ⟨by decide +kernel, by decide +kernel, by decide +kernel⟩
theorem ok_X4_swallowFreeBehind : q_ok yX4_swallowFreeBehind 1 := ⟨by decide +kernel, by decide +kernel, by decide +kernel⟩
theorem ok_X4_take : q_ok yX4_take 1 := ⟨by decide +kernel, by decide +kernel, by decide +kernel⟩
theorem ok_X4_usedPieces : q_ok yX4_usedPieces 0 := ⟨by decide +kernel, by decide +kernel, by decide +kernel⟩
theorem ok_X5_best : q_ok yX5_best 1 := ⟨by decide +kernel, by decide +kernel, by decide +kernel⟩
theorem ok_X5_count : q_ok yX5_count 1 := ⟨by decide +kernel, by decide +kernel, by decide +kernel⟩
theorem ok_X5_cover : q_ok yX5_cover 1 := ⟨by decide +kernel, by decide +kernel, by decide +kernel⟩
theorem ok_X5_faults : q_ok yX5_faults 0 := ⟨by decide +kernel, by decide +kernel, by decide +kernel⟩
theorem ok_X5_free : q_ok yX5_free 2 := ⟨by decide +kernel, by decide +kernel, by decide +kernel⟩
theorem ok_X5_give : q_ok yX5_give 1 := ⟨by decide +kernel, by decide +kernel, by decide +kernel⟩
theorem ok_X5_goes : q_ok yX5_goes 1 := ⟨by decide +kernel, by decide +kernel, by decide +kernel⟩
theorem ok_X5_greatest : q_ok yX5_greatest 0 := ⟨by decide +kernel, by decide +kernel, by decide +kernel⟩
theorem ok_X5_init : q_ok yX5_init 0 := ⟨by decide +kernel, by decide +kernel, by decide +kernel⟩
theorem ok_X5_join : q_ok yX5_join 1 := ⟨by decide +kernel, by decide +kernel, by decide +kernel⟩
theorem ok_X5_joinAll : q_ok yX5_joinAll 0 := ⟨by decide +kernel, by decide +kernel, by decide +kernel⟩
theorem ok_X5_joined : q_ok yX5_joined 1 := ⟨by decide +kernel, by decide +kernel, by decide +kernel⟩
theorem ok_X5_known : q_ok yX5_known 1 := ⟨by decide +kernel, by decide +kernel, by decide +kernel⟩
theorem ok_X5_length : q_ok yX5_length 1 := ⟨by decide +kernel, by decide +kernel, by decide +kernel⟩
theorem ok_X5_piece : q_ok yX5_piece 1 := ⟨by decide +kernel, by decide +kernel, by decide +kernel⟩
theorem ok_X5_release : q_ok yX5_release 2 := ⟨by decide +kernel, by decide +kernel, by decide +kernel⟩
theorem ok_X5_sized : q_ok yX5_sized 1 := ⟨by decide +kernel, by decide +kernel, by decide +kernel⟩
theorem ok_X5_space : q_ok yX5_space 1 := ⟨by decide +kernel, by decide +kernel, by decide +kernel⟩
theorem ok_X5_suffices : q_ok yX5_suffices 1 := ⟨by decide +kernel, by decide +kernel, by decide +kernel⟩
theorem ok_X5_take : q_ok yX5_take 1 := ⟨by decide +kernel, by decide +kernel, by decide +kernel⟩
theorem ok_X5_thrown : q_ok yX5_thrown 0 := ⟨by decide +kernel, by decide +kernel, by decide +kernel⟩
/-! a start whose arguments are no longs -/
def q_args : Nat → List Value → List (Nat × Value)
  | _, [] => []
  | i, v :: t => (i, v) :: q_args (i + 1) t
def q_1 (av : List Value) : Prop := ∀ v ∈ av, v.category = 1
theorem q_1n : q_1 [] := fun _ h => nomatch h
theorem q_1c {v : Value} {t : List Value} (h : v.category = 1) (ht : q_1 t) : q_1 (v :: t) := fun x hx => (List.mem_cons.mp hx).elim (fun e => by rw [e]; exact h) (ht x)
theorem q_1len : ∀ (av : List Value), q_1 av → (lg_sl av).length = av.length := by
  intro av
  induction av with
  | nil => intro _; rfl
  | cons v t ih =>
    intro h
    have h1 : v.category = 1 := h v List.mem_cons_self
    have h2 := ih (fun x hx => h x (List.mem_cons_of_mem _ hx))
    simp only [lg_sl, List.flatMap_cons, List.length_append, List.length_cons] at h2 ⊢
    rw [h2, h1]
    simp
    omega
theorem q_1args : ∀ (av : List Value) (i : Nat), q_1 av → lv_args i av = q_args i av := by
  intro av
  induction av with
  | nil => intro i _; rfl
  | cons v t ih =>
    intro i h
    have h1 : v.category = 1 := h v List.mem_cons_self
    have h2 := ih (i + 1) (fun x hx => h x (List.mem_cons_of_mem _ hx))
    simp only [lv_args, q_args, h1]
    rw [if_neg (by decide), h2]
theorem q_ofW1 {l : Launch} {y : MethodName} {cc : ByteArray} {n mc ms : Nat} {ret : Option FieldType} {rm : Room} {E : qE} {av : List Value} {S : qS} {Qc : Array Value → State → Outcome → State → Prop} (hy : plainName y.cls = true) (h1 : q_1 av) (hn : av.length ≤ n)
    (body : ∀ (p : Program) (e : Env) (s : State) (m : MethodId) (below : List Frame) (meth : Method) (c : Code), CallFix p m c cc n s av.toArray q_T y.cls → q_V E s S s.heap [] → meth.sig.returnType = ret → meth.locks = false → meth.name = y.name → ∀ ls : Array Slot, lv_has ls n (q_args 0 av) →
      W p l e rm s m av.toArray below meth c s.heap [] 0 0 (MQ below Qc av.toArray s mc ms E.A) (F0 m 0 ls [])) : Met l y [.code y cc n ret] rm (va_Pc av (q_I E S)) Qc mc ms E.A := by
  refine q_ofW hy (by rw [q_1len av h1]; exact hn) (fun p e s m below meth c C hV hr hlk hnm ls hl => ?_)
  rw [q_1args av 0 h1] at hl
  exact body p e s m below meth c C hV hr hlk hnm ls hl
theorem q_sum1 : ∀ (st : List Value), q_1 st → (st.map fun v => v.category).sum = st.length := by
  intro st
  induction st with
  | nil => intro _; rfl
  | cons v t ih =>
    intro h
    rw [List.map_cons, List.sum_cons, h v List.mem_cons_self, ih (fun x hx => h x (List.mem_cons_of_mem _ hx)), List.length_cons]
    omega
theorem q_sm {st : List Value} (h : q_1 st) (hl : st.length ≤ 8) : (st.map fun v => v.category).sum ≤ 8 := by rw [q_sum1 st h]; exact hl
end
section
/-- a row hung below par, to the side of n; at the root where par is none -/
def q_hang (S : qS) (q : Nat) (par : Option Nat) (n : Int32) (o : Option Nat) : qS := match par with
  | none => S.sR 7 q o
  | some a => if n < S.I 4 a then S.sR 3 a o else S.sR 4 a o
set_option maxHeartbeats 4000000 in
set_option maxRecDepth 100000 in
theorem c_Piece_init (l : Launch) (E : qE) (S : qS) (q : Nat) (a n : Int32) (b : Option Nat) (hL_q : q ∈ S.L) (hK_q : S.K q = 0) : q_Mv l yX0_init cX0_init 4 { frames := 1, cells := 0, slots := 0, locals := 12 } E [.ref q, .int a, .int n, va_rf b] S (fun S1 => S1 = ((S.sI 0 q a).sI 1 q n).sR 0 q b) 0 0 := by
  refine q_ofW1 (by decide) (q_1c rfl (q_1c rfl (q_1c rfl (q_1c (q_cat _) q_1n)))) (Nat.le_of_ble_eq_true rfl) (fun p e s m below meth c C hV hr hlk hnm ls hl => ?_)
  have hl : lv_has ls 4 [(0, va_rf (some q)), (1, .int (a)), (2, .int (n)), (3, va_rf (b))] := hl
  refine q_aload_n (r := some q) C dX0_init_0 rfl (lv_at hl 0 rfl) ?_
  refine q_objInit C wd_120 wd_55 wd_56 hl.1 dX0_init_1 (Nat.le_of_ble_eq_true rfl) (Nat.le_of_ble_eq_true rfl) ?_
  refine q_aload_n (r := some q) C dX0_init_4 rfl (lv_at hl 0 rfl) ?_
  refine lv_iload_n C.1 C.2.1 dX0_init_5 rfl (lv_at hl 1 rfl) ?_
  refine p_Piece_at (v := a) C hV hnm hL_q hK_q (wd_121) rfl dX0_init_6 (fun H locs hV => ?_)
  refine q_aload_n (r := some q) C dX0_init_9 rfl (lv_at hl 0 rfl) ?_
  refine lv_iload_n C.1 C.2.1 dX0_init_10 rfl (lv_at hl 2 rfl) ?_
  refine p_Piece_cells (v := n) C hV hL_q hK_q (Or.inl wd_123) dX0_init_11 (fun H locs hV => ?_)
  refine q_aload_n (r := some q) C dX0_init_14 rfl (lv_at hl 0 rfl) ?_
  refine q_aload_n (r := b) C dX0_init_15 rfl (lv_at hl 3 rfl) ?_
  refine p_Piece_behind (v := b) C hV hL_q hK_q (Or.inl wd_130) dX0_init_16 (fun H locs hV => ?_)
  refine q_vret C hV hr hlk (Nat.le_of_ble_eq_true rfl) (Nat.le_of_ble_eq_true rfl) dX0_init_19 ?_
  rfl
set_option maxHeartbeats 4000000 in
set_option maxRecDepth 100000 in
theorem c_Piece_isShelved (l : Launch) (E : qE) (S : qS) (q : Nat) (hL_q : q ∈ S.L) (hK_q : S.K q = 0) : q_Mi l yX0_isShelved cX0_isShelved 1 .boolean { frames := 0, cells := 0, slots := 0, locals := 0 } E [.ref q] S (fun r S1 => S1 = S ∧ r = if ¬ S.I 2 q = 0 ∧ 3 ≤ S.I 1 q then 1 else 0) 0 0 := by
  refine q_ofW1 (by decide) (q_1c rfl q_1n) (Nat.le_of_ble_eq_true rfl) (fun p e s m below meth c C hV hr hlk hnm ls hl => ?_)
  have hl : lv_has ls 1 [(0, va_rf (some q))] := hl
  refine q_aload_n (r := some q) C dX0_isShelved_0 rfl (lv_at hl 0 rfl) ?_
  refine g_Piece_isFree C hV hL_q hK_q (Or.inl wd_126) dX0_isShelved_1 ?_
  refine lv_if_eq (tgt := 19) C.1 C.2.1 dX0_isShelved_4 (by decide) (fun c4 => ?_) (fun c4 => ?_)
  · refine lv_iconst (v := 0) C.1 C.2.1 dX0_isShelved_19 (by decide) ?_
    refine q_zret (v := 0) C hV hr hlk (by decide) (Nat.le_of_ble_eq_true rfl) (Nat.le_of_ble_eq_true rfl) dX0_isShelved_20 ?_
    exact ⟨rfl, by simp_all⟩
  · refine q_aload_n (r := some q) C dX0_isShelved_7 rfl (lv_at hl 0 rfl) ?_
    refine g_Piece_cells C hV hL_q hK_q (Or.inl wd_123) dX0_isShelved_8 ?_
    refine lv_iconst (v := 3) C.1 C.2.1 dX0_isShelved_11 (by decide) ?_
    refine lv_icmp_lt (tgt := 19) C.1 C.2.1 dX0_isShelved_12 (by decide) (fun c12 => ?_) (fun c12 => ?_)
    · refine lv_iconst (v := 0) C.1 C.2.1 dX0_isShelved_19 (by decide) ?_
      refine q_zret (v := 0) C hV hr hlk (by decide) (Nat.le_of_ble_eq_true rfl) (Nat.le_of_ble_eq_true rfl) dX0_isShelved_20 ?_
      exact ⟨rfl, by simp_all⟩
    · refine lv_iconst (v := 1) C.1 C.2.1 dX0_isShelved_15 (by decide) ?_
      refine lv_goto (tgt := 20) C.1 C.2.1 dX0_isShelved_16 (by decide) ?_
      refine q_zret (v := 1) C hV hr hlk (by decide) (Nat.le_of_ble_eq_true rfl) (Nat.le_of_ble_eq_true rfl) dX0_isShelved_20 ?_
      exact ⟨rfl, by simp_all⟩
set_option maxHeartbeats 4000000 in
set_option maxRecDepth 100000 in
theorem c_Piece_isCrumb (l : Launch) (E : qE) (S : qS) (q : Nat) (hL_q : q ∈ S.L) (hK_q : S.K q = 0) : q_Mi l yX0_isCrumb cX0_isCrumb 1 .boolean { frames := 0, cells := 0, slots := 0, locals := 0 } E [.ref q] S (fun r S1 => S1 = S ∧ r = if ¬ S.I 2 q = 0 ∧ S.I 1 q < 3 then 1 else 0) 0 0 := by
  refine q_ofW1 (by decide) (q_1c rfl q_1n) (Nat.le_of_ble_eq_true rfl) (fun p e s m below meth c C hV hr hlk hnm ls hl => ?_)
  have hl : lv_has ls 1 [(0, va_rf (some q))] := hl
  refine q_aload_n (r := some q) C dX0_isCrumb_0 rfl (lv_at hl 0 rfl) ?_
  refine g_Piece_isFree C hV hL_q hK_q (Or.inl wd_126) dX0_isCrumb_1 ?_
  refine lv_if_eq (tgt := 19) C.1 C.2.1 dX0_isCrumb_4 (by decide) (fun c4 => ?_) (fun c4 => ?_)
  · refine lv_iconst (v := 0) C.1 C.2.1 dX0_isCrumb_19 (by decide) ?_
    refine q_zret (v := 0) C hV hr hlk (by decide) (Nat.le_of_ble_eq_true rfl) (Nat.le_of_ble_eq_true rfl) dX0_isCrumb_20 ?_
    exact ⟨rfl, by simp_all⟩
  · refine q_aload_n (r := some q) C dX0_isCrumb_7 rfl (lv_at hl 0 rfl) ?_
    refine g_Piece_cells C hV hL_q hK_q (Or.inl wd_123) dX0_isCrumb_8 ?_
    refine lv_iconst (v := 3) C.1 C.2.1 dX0_isCrumb_11 (by decide) ?_
    refine lv_icmp_ge (tgt := 19) C.1 C.2.1 dX0_isCrumb_12 (by decide) (fun c12 => ?_) (fun c12 => ?_)
    · refine lv_iconst (v := 0) C.1 C.2.1 dX0_isCrumb_19 (by decide) ?_
      refine q_zret (v := 0) C hV hr hlk (by decide) (Nat.le_of_ble_eq_true rfl) (Nat.le_of_ble_eq_true rfl) dX0_isCrumb_20 ?_
      exact ⟨rfl, by simp_all⟩
    · refine lv_iconst (v := 1) C.1 C.2.1 dX0_isCrumb_15 (by decide) ?_
      refine lv_goto (tgt := 20) C.1 C.2.1 dX0_isCrumb_16 (by decide) ?_
      refine q_zret (v := 1) C hV hr hlk (by decide) (Nat.le_of_ble_eq_true rfl) (Nat.le_of_ble_eq_true rfl) dX0_isCrumb_20 ?_
      exact ⟨rfl, by simp_all⟩
set_option maxHeartbeats 4000000 in
set_option maxRecDepth 100000 in
theorem c_Row_init (l : Launch) (E : qE) (S : qS) (q : Nat) (n : Int32) (hL_q : q ∈ S.L) (hK_q : S.K q = 1) : q_Mv l yX1_init cX1_init 2 { frames := 1, cells := 0, slots := 0, locals := 12 } E [.ref q, .int n] S (fun S1 => S1 = S.sI 4 q n) 0 0 := by
  refine q_ofW1 (by decide) (q_1c rfl (q_1c rfl q_1n)) (Nat.le_of_ble_eq_true rfl) (fun p e s m below meth c C hV hr hlk hnm ls hl => ?_)
  have hl : lv_has ls 2 [(0, va_rf (some q)), (1, .int (n))] := hl
  refine q_aload_n (r := some q) C dX1_init_0 rfl (lv_at hl 0 rfl) ?_
  refine q_objInit C wd_69 wd_55 wd_56 hl.1 dX1_init_1 (Nat.le_of_ble_eq_true rfl) (Nat.le_of_ble_eq_true rfl) ?_
  refine q_aload_n (r := some q) C dX1_init_4 rfl (lv_at hl 0 rfl) ?_
  refine lv_iload_n C.1 C.2.1 dX1_init_5 rfl (lv_at hl 1 rfl) ?_
  refine p_Row_cells (v := n) C hV hnm hL_q hK_q (wd_70) rfl dX1_init_6 (fun H locs hV => ?_)
  refine q_vret C hV hr hlk (Nat.le_of_ble_eq_true rfl) (Nat.le_of_ble_eq_true rfl) dX1_init_9 ?_
  rfl
set_option maxHeartbeats 4000000 in
set_option maxRecDepth 100000 in
theorem c_Row_push (l : Launch) (E : qE) (S : qS) (q x : Nat) (hL_q : q ∈ S.L) (hK_q : S.K q = 1) (hL_x : x ∈ S.L) (hK_x : S.K x = 0) : q_Mv l yX1_push cX1_push 2 { frames := 0, cells := 0, slots := 0, locals := 0 } E [.ref q, .ref x] S (fun S1 => S1 = (S.sR 1 x (S.R 2 q)).sR 2 q (some x)) 0 0 := by
  refine q_ofW1 (by decide) (q_1c rfl (q_1c rfl q_1n)) (Nat.le_of_ble_eq_true rfl) (fun p e s m below meth c C hV hr hlk hnm ls hl => ?_)
  have hl : lv_has ls 2 [(0, va_rf (some q)), (1, va_rf (some x))] := hl
  refine q_aload_n (r := some x) C dX1_push_0 rfl (lv_at hl 1 rfl) ?_
  refine q_aload_n (r := some q) C dX1_push_1 rfl (lv_at hl 0 rfl) ?_
  refine g_Row_latest C hV hL_q hK_q (Or.inl wd_73) dX1_push_2 ?_
  refine q_tr (v' := S.R 2 q) (rfl) ?_
  refine p_Piece_older (v := S.R 2 q) C hV hL_x hK_x (Or.inr ⟨_, wd_132⟩) dX1_push_5 (fun H locs hV => ?_)
  refine q_aload_n (r := some q) C dX1_push_8 rfl (lv_at hl 0 rfl) ?_
  refine q_aload_n (r := some x) C dX1_push_9 rfl (lv_at hl 1 rfl) ?_
  refine p_Row_latest (v := some x) C hV hL_q hK_q (Or.inl wd_73) dX1_push_10 (fun H locs hV => ?_)
  refine q_vret C hV hr hlk (Nat.le_of_ble_eq_true rfl) (Nat.le_of_ble_eq_true rfl) dX1_push_13 ?_
  rfl
set_option maxHeartbeats 4000000 in
set_option maxRecDepth 100000 in
theorem c_Tree_init (l : Launch) (E : qE) (S : qS) (q : Nat) (hL_q : q ∈ S.L) (hK_q : S.K q = 3) : q_Mv l yX3_init cX3_init 1 { frames := 1, cells := 0, slots := 0, locals := 12 } E [.ref q] S (fun S1 => S1 = S) 0 0 := by
  refine q_ofW1 (by decide) (q_1c rfl q_1n) (Nat.le_of_ble_eq_true rfl) (fun p e s m below meth c C hV hr hlk hnm ls hl => ?_)
  have hl : lv_has ls 1 [(0, va_rf (some q))] := hl
  refine q_aload_n (r := some q) C dX3_init_0 rfl (lv_at hl 0 rfl) ?_
  refine q_objInit C wd_91 wd_55 wd_56 hl.1 dX3_init_1 (Nat.le_of_ble_eq_true rfl) (Nat.le_of_ble_eq_true rfl) ?_
  refine q_vret C hV hr hlk (Nat.le_of_ble_eq_true rfl) (Nat.le_of_ble_eq_true rfl) dX3_init_4 ?_
  rfl
set_option maxHeartbeats 4000000 in
set_option maxRecDepth 100000 in
theorem c_Tree_hang (l : Launch) (E : qE) (S : qS) (q : Nat) (par : Option Nat) (n : Int32) (row : Option Nat) (hL_q : q ∈ S.L) (hK_q : S.K q = 3) (hp : ∀ a, par = some a → a ∈ S.L ∧ S.K a = 1) : q_Mv l yX3_hang cX3_hang 4 { frames := 0, cells := 0, slots := 0, locals := 0 } E [.ref q, va_rf par, .int n, va_rf row] S (fun S1 => S1 = q_hang S q par n row) 0 0 := by
  refine q_ofW1 (by decide) (q_1c rfl (q_1c (q_cat _) (q_1c rfl (q_1c (q_cat _) q_1n)))) (Nat.le_of_ble_eq_true rfl) (fun p e s m below meth c C hV hr hlk hnm ls hl => ?_)
  have hl : lv_has ls 4 [(0, va_rf (some q)), (1, va_rf (par)), (2, .int (n)), (3, va_rf (row))] := hl
  refine q_aload_n (r := par) C dX3_hang_0 rfl (lv_at hl 1 rfl) ?_
  refine q_ifnonnull (r := par) (tgt := 12) C dX3_hang_1 (by decide) (fun x1 c1 => ?_) (fun c1 => ?_)
  · subst c1
    obtain ⟨hL_x1, hK_x1⟩ := hp x1 rfl
    refine lv_iload_n C.1 C.2.1 dX3_hang_12 rfl (lv_at hl 2 rfl) ?_
    refine q_aload_n (r := some x1) C dX3_hang_13 rfl (lv_at hl 1 rfl) ?_
    refine g_Row_cells C hV hL_x1 hK_x1 (Or.inr ⟨_, wd_71⟩) dX3_hang_14 ?_
    refine lv_icmp_ge (tgt := 28) C.1 C.2.1 dX3_hang_17 (by decide) (fun c17 => ?_) (fun c17 => ?_)
    · refine q_aload_n (r := some x1) C dX3_hang_28 rfl (lv_at hl 1 rfl) ?_
      refine q_aload_n (r := row) C dX3_hang_29 rfl (lv_at hl 3 rfl) ?_
      refine p_Row_more (v := row) C hV hL_x1 hK_x1 (Or.inr ⟨_, wd_76⟩) dX3_hang_30 (fun H locs hV => ?_)
      refine q_vret C hV hr hlk (Nat.le_of_ble_eq_true rfl) (Nat.le_of_ble_eq_true rfl) dX3_hang_33 ?_
      first | rfl | exact (if_neg (Int32.not_lt.mpr c17) : (if n < S.I 4 x1 then S.sR 3 x1 row else S.sR 4 x1 row) = _).symm | exact (if_pos (Int32.not_le.mp c17) : (if n < S.I 4 x1 then S.sR 3 x1 row else S.sR 4 x1 row) = _).symm
    · refine q_aload_n (r := some x1) C dX3_hang_20 rfl (lv_at hl 1 rfl) ?_
      refine q_aload_n (r := row) C dX3_hang_21 rfl (lv_at hl 3 rfl) ?_
      refine p_Row_less (v := row) C hV hL_x1 hK_x1 (Or.inr ⟨_, wd_75⟩) dX3_hang_22 (fun H locs hV => ?_)
      refine lv_goto (tgt := 33) C.1 C.2.1 dX3_hang_25 (by decide) ?_
      refine q_vret C hV hr hlk (Nat.le_of_ble_eq_true rfl) (Nat.le_of_ble_eq_true rfl) dX3_hang_33 ?_
      first | rfl | exact (if_neg (Int32.not_lt.mpr c17) : (if n < S.I 4 x1 then S.sR 3 x1 row else S.sR 4 x1 row) = _).symm | exact (if_pos (Int32.not_le.mp c17) : (if n < S.I 4 x1 then S.sR 3 x1 row else S.sR 4 x1 row) = _).symm
  · subst c1
    refine q_aload_n (r := some q) C dX3_hang_4 rfl (lv_at hl 0 rfl) ?_
    refine q_aload_n (r := row) C dX3_hang_5 rfl (lv_at hl 3 rfl) ?_
    refine p_Tree_root (v := row) C hV hL_q hK_q (Or.inl wd_92) dX3_hang_6 (fun H locs hV => ?_)
    refine lv_goto (tgt := 33) C.1 C.2.1 dX3_hang_9 (by decide) ?_
    refine q_vret C hV hr hlk (Nat.le_of_ble_eq_true rfl) (Nat.le_of_ble_eq_true rfl) dX3_hang_33 ?_
    first | rfl | exact (if_neg (Int32.not_lt.mpr c17) : (if n < S.I 4 x1 then S.sR 3 x1 row else S.sR 4 x1 row) = _).symm | exact (if_pos (Int32.not_le.mp c17) : (if n < S.I 4 x1 then S.sR 3 x1 row else S.sR 4 x1 row) = _).symm
end
section
/-! CHAINS: from o along f the list l, to its end -/
def q_ch (f : Nat → Option Nat) : Option Nat → List Nat → Prop
  | o, [] => o = none
  | o, a :: l => o = some a ∧ q_ch f (f a) l
theorem q_ch_congr {f g : Nat → Option Nat} : ∀ {l : List Nat} {o : Option Nat}, (∀ a ∈ l, g a = f a) → q_ch f o l → q_ch g o l := by
  intro l
  induction l with
  | nil => intro o _ h; exact h
  | cons a l ih =>
    intro o hg h
    refine ⟨h.1, ?_⟩
    rw [hg a List.mem_cons_self]
    exact ih (fun b hb => hg b (List.mem_cons_of_mem _ hb)) h.2
theorem q_ch_uniq {f : Nat → Option Nat} : ∀ {l l' : List Nat} {o : Option Nat}, q_ch f o l → q_ch f o l' → l = l' := by
  intro l
  induction l with
  | nil =>
    intro l' o h h'
    cases l' with
    | nil => rfl
    | cons b t => have h1 : o = none := h; rw [h1] at h'; cases h'.1
  | cons a l ih =>
    intro l' o h h'
    cases l' with
    | nil => have h1 : o = none := h'; rw [h1] at h; cases h.1
    | cons b t =>
      have e : a = b := Option.some.inj (h.1.symm.trans h'.1)
      subst e
      rw [ih h.2 h'.2]
theorem q_ch_drop {f : Nat → Option Nat} : ∀ {l1 l2 : List Nat} {a : Nat} {o : Option Nat}, q_ch f o (l1 ++ a :: l2) → q_ch f (some a) (a :: l2) := by
  intro l1
  induction l1 with
  | nil => intro l2 a o h; exact ⟨rfl, h.2⟩
  | cons b t ih => intro l2 a o h; exact ih h.2
theorem q_ch_nodup {f : Nat → Option Nat} : ∀ {l : List Nat} {o : Option Nat}, q_ch f o l → l.Nodup := by
  intro l
  induction l with
  | nil => intro o _; exact List.nodup_nil
  | cons a l ih =>
    intro o h
    refine List.nodup_cons.mpr ⟨fun hm => ?_, ih h.2⟩
    obtain ⟨l1, l2, e⟩ := List.append_of_mem hm
    have h1 := h.2
    rw [e] at h1
    have h2 := q_ch_drop h1
    have h3 : q_ch f (f a) l2 := h2.2
    have h4 := q_ch_uniq h.2 h3
    have h5 := congrArg List.length (e.symm.trans h4)
    simp at h5
    omega
theorem q_ch_append {f : Nat → Option Nat} : ∀ {l1 l2 : List Nat} {o : Option Nat}, q_ch f o (l1 ++ l2) → ∃ o', q_ch f o' l2 := by
  intro l1
  induction l1 with
  | nil => intro l2 o h; exact ⟨o, h⟩
  | cons b t ih => intro l2 o h; exact ih h.2
theorem q_ch_head {f : Nat → Option Nat} {l : List Nat} {o : Option Nat} (h : q_ch f o l) : o = l.head? := by
  cases l with
  | nil => exact h
  | cons a t => exact h.1
/-! TREES: from o along le and mo, in order the list ns; k bounds the depth -/
def q_bt (le mo : Nat → Option Nat) : Nat → Option Nat → List Nat → Prop
  | 0, o, ns => o = none ∧ ns = []
  | k + 1, o, ns => (o = none ∧ ns = []) ∨ ∃ (a : Nat) (l1 l2 : List Nat), o = some a ∧ ns = l1 ++ a :: l2 ∧ q_bt le mo k (le a) l1 ∧ q_bt le mo k (mo a) l2
theorem q_bt_none {le mo : Nat → Option Nat} : ∀ (k : Nat), q_bt le mo k none []
  | 0 => ⟨rfl, rfl⟩
  | _ + 1 => Or.inl ⟨rfl, rfl⟩
theorem q_bt_mono {le mo : Nat → Option Nat} : ∀ {k : Nat} {o : Option Nat} {ns : List Nat}, q_bt le mo k o ns → q_bt le mo (k + 1) o ns := by
  intro k
  induction k with
  | zero => intro o ns h; exact Or.inl h
  | succ k ih =>
    intro o ns h
    rcases h with h | ⟨a, l1, l2, h1, h2, h3, h4⟩
    · exact Or.inl h
    · exact Or.inr ⟨a, l1, l2, h1, h2, ih h3, ih h4⟩
theorem q_bt_le {le mo : Nat → Option Nat} {k k' : Nat} (hk : k ≤ k') {o : Option Nat} {ns : List Nat} (h : q_bt le mo k o ns) : q_bt le mo k' o ns := by
  obtain ⟨d, rfl⟩ := Nat.exists_eq_add_of_le hk
  clear hk
  induction d with
  | zero => exact h
  | succ n ih => exact q_bt_mono ih
theorem q_bt_nil {le mo : Nat → Option Nat} {k : Nat} {ns : List Nat} (h : q_bt le mo k none ns) : ns = [] := by
  cases k with
  | zero => exact h.2
  | succ k =>
    rcases h with h | ⟨a, l1, l2, h1, _⟩
    · exact h.2
    · cases h1
theorem q_bt_some {le mo : Nat → Option Nat} {k a : Nat} {ns : List Nat} (h : q_bt le mo k (some a) ns) : ∃ (l1 l2 : List Nat), ns = l1 ++ a :: l2 ∧ q_bt le mo k (le a) l1 ∧ q_bt le mo k (mo a) l2 := by
  cases k with
  | zero => cases h.1
  | succ k =>
    rcases h with h | ⟨b, l1, l2, h1, h2, h3, h4⟩
    · cases h.1
    · have e : a = b := Option.some.inj h1
      subst e
      exact ⟨l1, l2, h2, q_bt_mono h3, q_bt_mono h4⟩
theorem q_bt_congr {le mo le' mo' : Nat → Option Nat} : ∀ {k : Nat} {o : Option Nat} {ns : List Nat}, (∀ a ∈ ns, le' a = le a ∧ mo' a = mo a) → q_bt le mo k o ns → q_bt le' mo' k o ns := by
  intro k
  induction k with
  | zero => intro o ns _ h; exact h
  | succ k ih =>
    intro o ns hg h
    rcases h with h | ⟨a, l1, l2, h1, h2, h3, h4⟩
    · exact Or.inl h
    · subst h2
      have ha := hg a (by simp)
      refine Or.inr ⟨a, l1, l2, h1, rfl, ?_, ?_⟩
      · rw [ha.1]; exact ih (fun b hb => hg b (by simp [hb])) h3
      · rw [ha.2]; exact ih (fun b hb => hg b (by simp [hb])) h4
theorem q_bt_mk {le mo : Nat → Option Nat} {k1 k2 a : Nat} {l1 l2 : List Nat} (h1 : q_bt le mo k1 (le a) l1) (h2 : q_bt le mo k2 (mo a) l2) : ∃ k, q_bt le mo k (some a) (l1 ++ a :: l2) :=
  ⟨max k1 k2 + 1, Or.inr ⟨a, l1, l2, rfl, rfl, q_bt_le (Nat.le_max_left _ _) h1, q_bt_le (Nat.le_max_right _ _) h2⟩⟩
/-- in order: the sizes grow -/
def q_so (z : Nat → Int) (ns : List Nat) : Prop := ns.Pairwise (fun a b => z a < z b)
theorem q_so_mid {z : Nat → Int} {l1 l2 : List Nat} {a : Nat} (h : q_so z (l1 ++ a :: l2)) : (∀ b ∈ l1, z b < z a) ∧ (∀ b ∈ l2, z a < z b) := by
  have h1 := List.pairwise_append.mp h
  exact ⟨fun b hb => h1.2.2 b hb a List.mem_cons_self, fun b hb => (List.pairwise_cons.mp h1.2.1).1 b hb⟩
theorem q_so_nodup {z : Nat → Int} {ns : List Nat} (h : q_so z ns) : ns.Nodup := by
  refine List.Pairwise.imp ?_ h
  intro a b hab e
  subst e
  omega
theorem q_find_eq {z : Nat → Int} {c : Int} : ∀ {pre post : List Nat} {a : Nat}, (∀ b ∈ pre, z b ≠ c) → z a = c → (pre ++ a :: post).find? (fun b => decide (z b = c)) = some a := by
  intro pre
  induction pre with
  | nil => intro post a _ h; simp [h]
  | cons b t ih =>
    intro post a hp h
    have hb := hp b List.mem_cons_self
    rw [List.cons_append, List.find?_cons_of_neg (by simpa using hb)]
    exact ih (fun x hx => hp x (List.mem_cons_of_mem _ hx)) h
theorem q_find_ge {z : Nat → Int} {c : Int} : ∀ {pre post : List Nat}, (∀ b ∈ pre, z b < c) → (∀ b ∈ post, c ≤ z b) → (pre ++ post).find? (fun b => decide (c ≤ z b)) = post.head? := by
  intro pre
  induction pre with
  | nil =>
    intro post _ h
    cases post with
    | nil => rfl
    | cons a t => simp [h a List.mem_cons_self]
  | cons b t ih =>
    intro post hp h
    have hb := hp b List.mem_cons_self
    rw [List.cons_append, List.find?_cons_of_neg (by simp; omega)]
    exact ih (fun x hx => hp x (List.mem_cons_of_mem _ hx)) h
/-! THE PLACE in a tree where a size hangs or would hang: under par, to the side of c, hangs o; behind and before it lie pre and post -/
def q_side (le mo : Nat → Option Nat) (z : Nat → Int) (c : Int) (root : Option Nat) : Option Nat → Option Nat
  | none => root
  | some a => if c < z a then le a else mo a
/-- whatever tree is hung there in its place, all is a tree -/
def q_cx (le mo : Nat → Option Nat) (z : Nat → Int) (c : Int) (root par : Option Nat) (pre post : List Nat) : Prop :=
  (∀ a, par = some a → a ∈ pre ++ post) ∧
  ∀ (le' mo' : Nat → Option Nat) (root' : Option Nat) (k : Nat) (o : Option Nat) (ms : List Nat), (∀ x ∈ pre ++ post, par ≠ some x → le' x = le x ∧ mo' x = mo x) →
    (∀ a, par = some a → (if c < z a then le' a = o ∧ mo' a = mo a else le' a = le a ∧ mo' a = o) ∧ root' = root) → (par = none → root' = o) → q_bt le' mo' k o ms → ∃ k', q_bt le' mo' k' root' (pre ++ ms ++ post)
theorem q_cx_0 {le mo : Nat → Option Nat} {z : Nat → Int} {c : Int} {root : Option Nat} : q_cx le mo z c root none [] [] :=
  ⟨fun a h => (nomatch h), fun le' mo' root' k o ms _ _ h1 h2 => ⟨k, by rw [h1 rfl]; simpa using h2⟩⟩
/-- all apart -/
theorem q_nd3 {pre post l1 l2 : List Nat} {a : Nat} (h : (pre ++ (l1 ++ a :: l2) ++ post).Nodup) : a ∉ l1 ∧ a ∉ l2 ∧ ∀ x ∈ pre ++ post, x ≠ a ∧ x ∉ l1 ∧ x ∉ l2 := by
  obtain ⟨h1, h2, h3⟩ := List.nodup_append.mp h
  obtain ⟨h4, h5, h6⟩ := List.nodup_append.mp h1
  obtain ⟨h7, h8, h9⟩ := List.nodup_append.mp h5
  have hm : ∀ y ∈ l1 ++ a :: l2, ∀ x ∈ pre ++ post, x ≠ y := by
    intro y hy x hx
    rcases List.mem_append.mp hx with hx | hx
    · exact h6 x hx y hy
    · exact (h3 y (List.mem_append_right _ hy) x hx).symm
  exact ⟨fun hx => h9 a hx a List.mem_cons_self rfl, (List.nodup_cons.mp h8).1, fun x hx => ⟨hm a (by simp) x hx, fun z => hm x (by simp [z]) x hx rfl, fun z => hm x (by simp [z]) x hx rfl⟩⟩
theorem q_cx_le {le mo : Nat → Option Nat} {z : Nat → Int} {c : Int} {root par : Option Nat} {pre post l1 l2 : List Nat} {k a : Nat} (h : q_cx le mo z c root par pre post) (hs : q_side le mo z c root par = some a) (hc : c < z a) (h2 : q_bt le mo k (mo a) l2)
    (hnd : (pre ++ (l1 ++ a :: l2) ++ post).Nodup) : q_cx le mo z c root (some a) pre (a :: l2 ++ post) := by
  obtain ⟨-, hal2, hap0⟩ := q_nd3 hnd
  have hap : ∀ x, x ∈ pre ++ post → x ≠ a ∧ x ∉ l2 := fun x hx => ⟨(hap0 x hx).1, (hap0 x hx).2.2⟩
  refine ⟨fun b hb => by cases hb; simp, fun le' mo' root' k' o ms hsame hside hroot hb => ?_⟩
  obtain ⟨hside1, hr⟩ := hside a rfl
  rw [if_pos hc] at hside1
  have hb2 : q_bt le' mo' k (mo' a) l2 := by
    rw [hside1.2]
    refine q_bt_congr (fun x hx => hsame x (by simp [hx]) (fun e => ?_)) h2
    cases e
    exact hal2 hx
  obtain ⟨k2, hb3⟩ := q_bt_mk (a := a) (by rw [hside1.1]; exact hb) hb2
  have hpa : ∀ x, par = some x → x ≠ a := fun x hx => (hap x (h.1 x hx)).1
  obtain ⟨k3, hb4⟩ := h.2 le' mo' root' k2 (some a) (ms ++ a :: l2) (fun x hx hpx => hsame x (by simp only [List.mem_append, List.mem_cons] at hx ⊢; rcases hx with hx | hx; exact Or.inl hx; exact Or.inr (Or.inr hx)) (fun e => by cases e; exact (hap a hx).1 rfl))
    (fun b hb => by
      have hbm := h.1 b hb
      have hne := hpa b hb
      have hs2 := hsame b (by simp only [List.mem_append, List.mem_cons] at hbm ⊢; rcases hbm with hx | hx; exact Or.inl hx; exact Or.inr (Or.inr hx)) (fun e => hne (Option.some.inj e).symm)
      subst hb
      simp only [q_side] at hs
      refine ⟨?_, hr⟩
      by_cases hcb : c < z b
      · rw [if_pos hcb] at hs ⊢
        exact ⟨hs2.1.trans hs, hs2.2⟩
      · rw [if_neg hcb] at hs ⊢
        exact ⟨hs2.1, hs2.2.trans hs⟩)
    (fun e => by subst e; rw [hr]; exact hs) hb3
  exact ⟨k3, by simpa [List.append_assoc] using hb4⟩
theorem q_cx_mo {le mo : Nat → Option Nat} {z : Nat → Int} {c : Int} {root par : Option Nat} {pre post l1 l2 : List Nat} {k a : Nat} (h : q_cx le mo z c root par pre post) (hs : q_side le mo z c root par = some a) (hc : ¬ c < z a) (h1 : q_bt le mo k (le a) l1)
    (hnd : (pre ++ (l1 ++ a :: l2) ++ post).Nodup) : q_cx le mo z c root (some a) (pre ++ (l1 ++ [a])) post := by
  obtain ⟨hal1, -, hap0⟩ := q_nd3 hnd
  have hap : ∀ x, x ∈ pre ++ post → x ≠ a ∧ x ∉ l1 := fun x hx => ⟨(hap0 x hx).1, (hap0 x hx).2.1⟩
  refine ⟨fun b hb => by cases hb; simp, fun le' mo' root' k' o ms hsame hside hroot hb => ?_⟩
  obtain ⟨hside1, hr⟩ := hside a rfl
  rw [if_neg hc] at hside1
  have hb2 : q_bt le' mo' k (le' a) l1 := by
    rw [hside1.1]
    refine q_bt_congr (fun x hx => hsame x (by simp [hx]) (fun e => ?_)) h1
    cases e
    exact hal1 hx
  obtain ⟨k2, hb3⟩ := q_bt_mk (a := a) hb2 (by rw [hside1.2]; exact hb)
  have hpa : ∀ x, par = some x → x ≠ a := fun x hx => (hap x (h.1 x hx)).1
  obtain ⟨k3, hb4⟩ := h.2 le' mo' root' k2 (some a) (l1 ++ a :: ms) (fun x hx hpx => hsame x (by simp only [List.mem_append, List.mem_cons] at hx ⊢; rcases hx with hx | hx; exact Or.inl (Or.inl hx); exact Or.inr hx) (fun e => by cases e; exact (hap a hx).1 rfl))
    (fun b hb => by
      have hbm := h.1 b hb
      have hne := hpa b hb
      have hs2 := hsame b (by simp only [List.mem_append, List.mem_cons] at hbm ⊢; rcases hbm with hx | hx; exact Or.inl (Or.inl hx); exact Or.inr hx) (fun e => hne (Option.some.inj e).symm)
      subst hb
      simp only [q_side] at hs
      refine ⟨?_, hr⟩
      by_cases hcb : c < z b
      · rw [if_pos hcb] at hs ⊢
        exact ⟨hs2.1.trans hs, hs2.2⟩
      · rw [if_neg hcb] at hs ⊢
        exact ⟨hs2.1, hs2.2.trans hs⟩)
    (fun e => by subst e; rw [hr]; exact hs) hb3
  exact ⟨k3, by simpa [List.append_assoc] using hb4⟩
/-- the lesser branch hung below the least of the greater one -/
theorem q_bt_low {le mo : Nat → Option Nat} {x : Nat} {o : Option Nat} {l0 : List Nat} {k0 : Nat} : ∀ {k a : Nat} {ms : List Nat}, q_bt le mo k (some a) ms → ms.head? = some x → ms.Nodup → x ∉ l0 → (∀ y ∈ l0, y ∉ ms) → le x = none → q_bt le mo k0 o l0 → ∃ k', q_bt (va_up le x o) mo k' (some a) (l0 ++ ms) := by
  intro k
  induction k with
  | zero => intro a ms h; cases h.1
  | succ k ih =>
    intro a ms h hx hnd hx0 hdis hlx ho
    rcases h with h | ⟨b, l1, l2, h1, h2, h3, h4⟩
    · cases h.1
    · have e : a = b := Option.some.inj h1
      subst e
      subst h2
      have hnd2 := List.nodup_append.mp hnd
      have ha2 : a ∉ l2 := (List.nodup_cons.mp hnd2.2.1).1
      have hx2 : x ∉ l2 := by
        intro hm
        cases l1 with
        | nil => simp at hx; subst hx; exact ha2 hm
        | cons y t => simp at hx; subst hx; exact hnd2.2.2 y List.mem_cons_self y (List.mem_cons_of_mem _ hm) rfl
      have h4' : q_bt (va_up le x o) mo k (mo a) l2 := q_bt_congr (fun y hy => ⟨va_up_ne _ _ (fun e => hx2 (e ▸ hy)), rfl⟩) h4
      have ho' : q_bt (va_up le x o) mo k0 o l0 := q_bt_congr (fun y hy => ⟨va_up_ne _ _ (fun e => hx0 (e ▸ hy)), rfl⟩) ho
      by_cases hl : le a = none
      · have e1 : l1 = [] := by rw [hl] at h3; exact q_bt_nil h3
        subst e1
        simp at hx
        subst hx
        obtain ⟨k', hk⟩ := q_bt_mk (le := va_up le a o) (a := a) (by rw [va_up_self]; exact ho') h4'
        exact ⟨k', hk⟩
      · cases hla : le a with
        | none => exact absurd hla hl
        | some y =>
          rw [hla] at h3
          have hl1 : l1.head? = some x := by
            cases l1 with
            | nil =>
              obtain ⟨u, v, hu, -⟩ := q_bt_some h3
              simp at hu
            | cons z t => simpa using hx
          have hax : a ≠ x := fun e => hl (e ▸ hlx)
          obtain ⟨k1, hk1⟩ := ih h3 hl1 hnd2.1 hx0 (fun z hz hm => hdis z hz (List.mem_append_left _ hm)) hlx ho
          obtain ⟨k', hk⟩ := q_bt_mk (le := va_up le x o) (a := a) (by rw [va_up_ne _ _ hax, hla]; exact hk1) h4'
          exact ⟨k', by simpa [List.append_assoc] using hk⟩
end
section
/-! the tree of great rows, in order the list ns -/
def q_z (S : qS) (a : Nat) : Int := (S.I 4 a).toInt
def q_tree (S : qS) (t : Nat) (ns : List Nat) : Prop := t ∈ S.L ∧ S.K t = 3 ∧ (∃ k, q_bt (S.R 3) (S.R 4) k (S.R 7 t) ns) ∧ (∀ a ∈ ns, a ∈ S.L ∧ S.K a = 1) ∧ q_so (q_z S) ns
theorem q_bt_dec {le mo : Nat → Option Nat} {k a : Nat} {ns : List Nat} (h : q_bt le mo k (some a) ns) : ∃ (k' : Nat) (l1 l2 : List Nat), k = k' + 1 ∧ ns = l1 ++ a :: l2 ∧ q_bt le mo k' (le a) l1 ∧ q_bt le mo k' (mo a) l2 := by
  cases k with
  | zero => cases h.1
  | succ k =>
    rcases h with h | ⟨b, l1, l2, h1, h2, h3, h4⟩
    · cases h.1
    · have e : a = b := Option.some.inj h1
      subst e
      exact ⟨k, l1, l2, rfl, h2, h3, h4⟩
theorem q_i_le {a b : Int32} : a ≤ b ↔ a.toInt ≤ b.toInt := Int32.le_iff_toInt_le
theorem q_i_lt {a b : Int32} : a < b ↔ a.toInt < b.toInt := Int32.lt_iff_toInt_lt
theorem q_i_eq {a b : Int32} : a = b ↔ a.toInt = b.toInt := Int32.toInt_inj.symm
theorem q_find_no {z : Nat → Int} {c : Int} {l : List Nat} (h : ∀ b ∈ l, z b ≠ c) : l.find? (fun b => decide (z b = c)) = none := by
  rw [List.find?_eq_none]
  intro b hb
  simpa using h b hb
set_option maxHeartbeats 4000000 in
set_option maxRecDepth 100000 in
theorem c0_Tree_rowOf (l : Launch) (E : qE) (S : qS) (q : Nat) (n : Int32) (ns : List Nat) (ht : q_tree S q ns) (post : Option Nat → qS → Prop) (hpost : ∀ r S1, S1 = S ∧ r = ns.find? (fun a => decide (q_z S a = n.toInt)) → post r S1) : q_Mq l yX3_rowOf cX3_rowOf 3 (.object "ChunkShelf$Row") { frames := 0, cells := 0, slots := 0, locals := 0 } E [.ref q, .int n] S (post) 0 0 := by
  refine q_ofW1 (by decide) (q_1c rfl (q_1c rfl q_1n)) (Nat.le_of_ble_eq_true rfl) (fun p e s m below meth c C hV hr hlk hnm ls hl => ?_)
  have hl : lv_has ls 3 [(0, va_rf (some q)), (1, .int (n))] := hl
  obtain ⟨hL_q, hK_q, ⟨kd0, hb0⟩, hok, hso⟩ := ht
  have loop : ∀ (k : Nat) (kd : Nat) (row : Option Nat) (pre ms post_ : List Nat) (ls : Array Slot), kd < k → lv_has ls 3 [(2, va_rf (row)), (0, va_rf (some q)), (1, .int (n))] → q_bt (S.R 3) (S.R 4) kd row ms → ns = pre ++ ms ++ post_ → (∀ b ∈ pre, q_z S b < n.toInt) → (∀ b ∈ post_, n.toInt < q_z S b) → W p l e ({ frames := 0, cells := 0, slots := 0, locals := 0 } : Room) s m [.ref q, .int n].toArray below meth c s.heap [] (0) (0) (MQ below (va_Qq (post) (q_B E) E.A) [.ref q, .int n].toArray s (0) (0) E.A) (F0 m 5 ls []) := by
    intro k
    induction k with
    | zero => intro kd row pre ms post_ ls hk; exact absurd hk (Nat.not_lt_zero _)
    | succ k ih =>
      intro kd row pre ms post_ ls hk hl hb hns hpre hpo
      refine q_aload_n (r := row) C dX3_rowOf_5 rfl (lv_at hl 0 rfl) ?_
      refine q_ifnull (r := row) (tgt := 40) C dX3_rowOf_6 (by decide) (fun c6 => ?_) (fun x6 c6 => ?_)
      · subst c6
        refine q_aload_n (r := none) C dX3_rowOf_40 rfl (lv_at hl 0 rfl) ?_
        refine q_aret (r := none) C hV hr hlk (Nat.le_of_ble_eq_true rfl) (Nat.le_of_ble_eq_true rfl) dX3_rowOf_41 ?_
        refine hpost _ _ ⟨rfl, ?_⟩
        have e1 : ms = [] := q_bt_nil hb
        subst e1
        rw [hns, q_find_no]
        intro b hb9
        simp only [List.append_nil, List.mem_append] at hb9
        rcases hb9 with h | h
        · have := hpre b h; omega
        · have := hpo b h; omega
      · subst c6
        obtain ⟨kd', l1, l2, hkd, hms, hb1, hb2⟩ := q_bt_dec hb
        subst hms
        obtain ⟨hL_x6, hK_x6⟩ := hok x6 (by rw [hns]; simp)
        have hmid := q_so_mid (z := q_z S) (l1 := l1) (a := x6) (l2 := l2) (by have h := hso; rw [hns] at h; exact (List.pairwise_append.mp (List.pairwise_append.mp h).1).2.1)
        refine q_aload_n (r := some x6) C dX3_rowOf_9 rfl (lv_at hl 0 rfl) ?_
        refine g_Row_cells C hV hL_x6 hK_x6 (Or.inr ⟨_, wd_71⟩) dX3_rowOf_10 ?_
        refine lv_iload_n C.1 C.2.1 dX3_rowOf_13 rfl (lv_at hl 2 rfl) ?_
        refine lv_icmp_eq (tgt := 40) C.1 C.2.1 dX3_rowOf_14 (by decide) (fun c14 => ?_) (fun c14 => ?_)
        · refine q_aload_n (r := some x6) C dX3_rowOf_40 rfl (lv_at hl 0 rfl) ?_
          refine q_aret (r := some x6) C hV hr hlk (Nat.le_of_ble_eq_true rfl) (Nat.le_of_ble_eq_true rfl) dX3_rowOf_41 ?_
          refine hpost _ _ ⟨rfl, ?_⟩
          rw [hns, List.append_assoc, List.append_assoc, ← List.append_assoc pre]
          refine (q_find_eq (fun b hb9 => ?_) (q_i_eq.mp c14)).symm
          rcases List.mem_append.mp hb9 with h | h
          · have := hpre b h; omega
          · have h1 := hmid.1 b h; have h2 := q_i_eq.mp c14; have h3 : q_z S x6 = (S.I 4 x6).toInt := rfl; omega
        · refine lv_iload_n C.1 C.2.1 dX3_rowOf_17 rfl (lv_at hl 2 rfl) ?_
          refine q_aload_n (r := some x6) C dX3_rowOf_18 rfl (lv_at hl 0 rfl) ?_
          refine g_Row_cells C hV hL_x6 hK_x6 (Or.inr ⟨_, wd_71⟩) dX3_rowOf_19 ?_
          refine lv_icmp_ge (tgt := 32) C.1 C.2.1 dX3_rowOf_22 (by decide) (fun c22 => ?_) (fun c22 => ?_)
          · refine q_aload_n (r := some x6) C dX3_rowOf_32 rfl (lv_at hl 0 rfl) ?_
            refine g_Row_more C hV hL_x6 hK_x6 (Or.inr ⟨_, wd_76⟩) dX3_rowOf_33 ?_
            refine q_nr (fun r33 h33 => ?_)
            refine q_astore_n (r := r33) (lv' := [(2, va_rf (r33)), (0, va_rf (some q)), (1, .int (n))]) C dX3_rowOf_36 rfl hl (by decide) (q_k0 (q_kN 1 rfl (by decide) (by decide) (q_kC 2 rfl (by decide) rfl q_kz))) (fun ls hl => ?_)
            refine lv_goto (tgt := 5) C.1 C.2.1 dX3_rowOf_37 (by decide) ?_
            exact ih kd' r33 (pre ++ (l1 ++ [x6])) l2 post_ ls (by omega) hl (by rw [h33]; exact hb2) (by rw [hns]; simp [List.append_assoc]) (fun b hb => by
              have hz : q_z S x6 < n.toInt := by have h1 := q_i_le.mp c22; have h2 := mt q_i_eq.mpr c14; show (S.I 4 x6).toInt < n.toInt; omega
              rcases List.mem_append.mp hb with h | h
              · exact hpre b h
              · rcases List.mem_append.mp h with h | h
                · have := hmid.1 b h; omega
                · rw [List.mem_singleton.mp h]; exact hz) hpo
          · refine q_aload_n (r := some x6) C dX3_rowOf_25 rfl (lv_at hl 0 rfl) ?_
            refine g_Row_less C hV hL_x6 hK_x6 (Or.inr ⟨_, wd_75⟩) dX3_rowOf_26 ?_
            refine q_nr (fun r26 h26 => ?_)
            refine lv_goto (tgt := 36) C.1 C.2.1 dX3_rowOf_29 (by decide) ?_
            refine q_astore_n (r := r26) (lv' := [(2, va_rf (r26)), (0, va_rf (some q)), (1, .int (n))]) C dX3_rowOf_36 rfl hl (by decide) (q_k0 (q_kN 1 rfl (by decide) (by decide) (q_kC 2 rfl (by decide) rfl q_kz))) (fun ls hl => ?_)
            refine lv_goto (tgt := 5) C.1 C.2.1 dX3_rowOf_37 (by decide) ?_
            exact ih kd' r26 pre l1 (x6 :: l2 ++ post_) ls (by omega) hl (by rw [h26]; exact hb1) (by rw [hns]; simp [List.append_assoc]) hpre (fun b hb => by
              have hz : n.toInt < q_z S x6 := by have := mt q_i_le.mpr c22; show n.toInt < (S.I 4 x6).toInt; omega
              rcases List.mem_append.mp hb with h | h
              · rcases List.mem_cons.mp h with rfl | h
                · exact hz
                · have := hmid.2 b h; omega
              · exact hpo b h)
  refine q_aload_n (r := some q) C dX3_rowOf_0 rfl (lv_at hl 0 rfl) ?_
  refine g_Tree_root C hV hL_q hK_q (Or.inl wd_92) dX3_rowOf_1 ?_
  refine q_nr (fun r1 h1 => ?_)
  refine q_astore_n (r := r1) (lv' := [(2, va_rf (r1)), (0, va_rf (some q)), (1, .int (n))]) C dX3_rowOf_4 rfl hl (by decide) (q_k0 (q_kN 0 rfl (by decide) (by decide) (q_kC 1 rfl (by decide) rfl q_kz))) (fun ls hl => ?_)
  exact loop (kd0 + 1) kd0 r1 [] ns [] ls (Nat.lt_succ_self _) hl (by rw [h1]; exact hb0) (by simp) (fun _ h => nomatch h) (fun _ h => nomatch h)
theorem c_Tree_rowOf (l : Launch) (E : qE) (S : qS) (q : Nat) (n : Int32) (ns : List Nat) (ht : q_tree S q ns) : q_Mq l yX3_rowOf cX3_rowOf 3 (.object "ChunkShelf$Row") { frames := 0, cells := 0, slots := 0, locals := 0 } E [.ref q, .int n] S (fun r S1 => S1 = S ∧ r = ns.find? (fun a => decide (q_z S a = n.toInt))) 0 0 := c0_Tree_rowOf l E S q n ns ht _ (fun _ _ h => h)

set_option maxHeartbeats 4000000 in
set_option maxRecDepth 100000 in
theorem c0_Tree_leastFrom (l : Launch) (E : qE) (S : qS) (q : Nat) (n : Int32) (ns : List Nat) (ht : q_tree S q ns) (post : Option Nat → qS → Prop) (hpost : ∀ r S1, S1 = S ∧ r = ns.find? (fun a => decide (n.toInt ≤ q_z S a)) → post r S1) : q_Mq l yX3_leastFrom cX3_leastFrom 4 (.object "ChunkShelf$Row") { frames := 0, cells := 0, slots := 0, locals := 0 } E [.ref q, .int n] S (post) 0 0 := by
  refine q_ofW1 (by decide) (q_1c rfl (q_1c rfl q_1n)) (Nat.le_of_ble_eq_true rfl) (fun p e s m below meth c C hV hr hlk hnm ls hl => ?_)
  have hl : lv_has ls 4 [(0, va_rf (some q)), (1, .int (n))] := hl
  obtain ⟨hL_q, hK_q, ⟨kd0, hb0⟩, hok, hso⟩ := ht
  have loop : ∀ (k : Nat) (kd : Nat) (row best : Option Nat) (pre ms post_ : List Nat) (ls : Array Slot), kd < k → lv_has ls 4 [(3, va_rf (row)), (2, va_rf (best)), (0, va_rf (some q)), (1, .int (n))] → q_bt (S.R 3) (S.R 4) kd row ms → ns = pre ++ ms ++ post_ → (∀ b ∈ pre, q_z S b < n.toInt) → (∀ b ∈ post_, n.toInt ≤ q_z S b) → best = post_.head? → W p l e ({ frames := 0, cells := 0, slots := 0, locals := 0 } : Room) s m [.ref q, .int n].toArray below meth c s.heap [] (0) (0) (MQ below (va_Qq (post) (q_B E) E.A) [.ref q, .int n].toArray s (0) (0) E.A) (F0 m 7 ls []) := by
    intro k
    induction k with
    | zero => intro kd row best pre ms post_ ls hk; exact absurd hk (Nat.not_lt_zero _)
    | succ k ih =>
      intro kd row best pre ms post_ ls hk hl hb hns hpre hpo hbe
      refine q_aload_n (r := row) C dX3_leastFrom_7 rfl (lv_at hl 0 rfl) ?_
      refine q_ifnull (r := row) (tgt := 37) C dX3_leastFrom_8 (by decide) (fun c8 => ?_) (fun x8 c8 => ?_)
      · subst c8
        refine q_aload_n (r := best) C dX3_leastFrom_37 rfl (lv_at hl 1 rfl) ?_
        refine q_aret (r := best) C hV hr hlk (Nat.le_of_ble_eq_true rfl) (Nat.le_of_ble_eq_true rfl) dX3_leastFrom_38 ?_
        refine hpost _ _ ⟨rfl, ?_⟩
        have e1 : ms = [] := q_bt_nil hb
        subst e1
        rw [hns, List.append_nil, q_find_ge hpre hpo, hbe]
      · subst c8
        obtain ⟨kd', l1, l2, hkd, hms, hb1, hb2⟩ := q_bt_dec hb
        subst hms
        obtain ⟨hL_x8, hK_x8⟩ := hok x8 (by rw [hns]; simp)
        have hmid := q_so_mid (z := q_z S) (l1 := l1) (a := x8) (l2 := l2) (by have h := hso; rw [hns] at h; exact (List.pairwise_append.mp (List.pairwise_append.mp h).1).2.1)
        refine q_aload_n (r := some x8) C dX3_leastFrom_11 rfl (lv_at hl 0 rfl) ?_
        refine g_Row_cells C hV hL_x8 hK_x8 (Or.inr ⟨_, wd_71⟩) dX3_leastFrom_12 ?_
        refine lv_iload_n C.1 C.2.1 dX3_leastFrom_15 rfl (lv_at hl 3 rfl) ?_
        refine lv_icmp_lt (tgt := 29) C.1 C.2.1 dX3_leastFrom_16 (by decide) (fun c16 => ?_) (fun c16 => ?_)
        · refine q_aload_n (r := some x8) C dX3_leastFrom_29 rfl (lv_at hl 0 rfl) ?_
          refine g_Row_more C hV hL_x8 hK_x8 (Or.inr ⟨_, wd_76⟩) dX3_leastFrom_30 ?_
          refine q_nr (fun r30 h30 => ?_)
          refine q_astore_n (r := r30) (lv' := [(3, va_rf (r30)), (2, va_rf (best)), (0, va_rf (some q)), (1, .int (n))]) C dX3_leastFrom_33 rfl hl (by decide) (q_k0 (q_kC 1 rfl (by decide) (q_cat _) (q_kN 2 rfl (by decide) (by decide) (q_kN 3 rfl (by decide) (by decide) q_kz)))) (fun ls hl => ?_)
          refine lv_goto (tgt := 7) C.1 C.2.1 dX3_leastFrom_34 (by decide) ?_
          exact ih kd' r30 best (pre ++ (l1 ++ [x8])) l2 post_ ls (by omega) hl (by rw [h30]; exact hb2) (by rw [hns]; simp [List.append_assoc]) (fun b hb => by
            have hz : q_z S x8 < n.toInt := q_i_lt.mp c16
            rcases List.mem_append.mp hb with h | h
            · exact hpre b h
            · rcases List.mem_append.mp h with h | h
              · have := hmid.1 b h; omega
              · rw [List.mem_singleton.mp h]; exact hz) hpo hbe
        · refine q_aload_n (r := some x8) C dX3_leastFrom_19 rfl (lv_at hl 0 rfl) ?_
          refine q_astore_n (r := some x8) (lv' := [(2, va_rf (some x8)), (3, va_rf (some x8)), (0, va_rf (some q)), (1, .int (n))]) C dX3_leastFrom_20 rfl hl (by decide) (q_k0 (q_kN 0 rfl (by decide) (by decide) (q_kN 2 rfl (by decide) (by decide) (q_kC 3 rfl (by decide) rfl q_kz)))) (fun ls hl => ?_)
          refine q_aload_n (r := some x8) C dX3_leastFrom_21 rfl (lv_at hl 1 rfl) ?_
          refine g_Row_less C hV hL_x8 hK_x8 (Or.inr ⟨_, wd_75⟩) dX3_leastFrom_22 ?_
          refine q_nr (fun r22 h22 => ?_)
          refine q_astore_n (r := r22) (lv' := [(3, va_rf (r22)), (2, va_rf (some x8)), (0, va_rf (some q)), (1, .int (n))]) C dX3_leastFrom_25 rfl hl (by decide) (q_k0 (q_kC 0 rfl (by decide) (q_cat _) (q_kN 2 rfl (by decide) (by decide) (q_kN 3 rfl (by decide) (by decide) q_kz)))) (fun ls hl => ?_)
          refine lv_goto (tgt := 7) C.1 C.2.1 dX3_leastFrom_26 (by decide) ?_
          exact ih kd' r22 (some x8) pre l1 (x8 :: l2 ++ post_) ls (by omega) hl (by rw [h22]; exact hb1) (by rw [hns]; simp [List.append_assoc]) hpre (fun b hb => by
            have hz : n.toInt ≤ q_z S x8 := by have := mt q_i_lt.mpr c16; show n.toInt ≤ (S.I 4 x8).toInt; omega
            rcases List.mem_append.mp hb with h | h
            · rcases List.mem_cons.mp h with rfl | h
              · exact hz
              · have := hmid.2 b h; omega
            · exact hpo b h) rfl
  refine lv_null C.1 C.2.1 dX3_leastFrom_0 ?_
  refine q_astore_n (r := none) (lv' := [(2, va_rf (none)), (0, va_rf (some q)), (1, .int (n))]) C dX3_leastFrom_1 rfl hl (by decide) (q_k0 (q_kN 0 rfl (by decide) (by decide) (q_kC 1 rfl (by decide) rfl q_kz))) (fun ls hl => ?_)
  refine q_aload_n (r := some q) C dX3_leastFrom_2 rfl (lv_at hl 1 rfl) ?_
  refine g_Tree_root C hV hL_q hK_q (Or.inl wd_92) dX3_leastFrom_3 ?_
  refine q_nr (fun r3 h3 => ?_)
  refine q_astore_n (r := r3) (lv' := [(3, va_rf (r3)), (2, va_rf (none)), (0, va_rf (some q)), (1, .int (n))]) C dX3_leastFrom_6 rfl hl (by decide) (q_k0 (q_kC 0 rfl (by decide) (q_cat _) (q_kN 1 rfl (by decide) (by decide) (q_kN 2 rfl (by decide) (by decide) q_kz)))) (fun ls hl => ?_)
  exact loop (kd0 + 1) kd0 r3 none [] ns [] ls (Nat.lt_succ_self _) hl (by rw [h3]; exact hb0) (by simp) (fun _ h => nomatch h) (fun _ h => nomatch h) rfl
theorem c_Tree_leastFrom (l : Launch) (E : qE) (S : qS) (q : Nat) (n : Int32) (ns : List Nat) (ht : q_tree S q ns) : q_Mq l yX3_leastFrom cX3_leastFrom 4 (.object "ChunkShelf$Row") { frames := 0, cells := 0, slots := 0, locals := 0 } E [.ref q, .int n] S (fun r S1 => S1 = S ∧ r = ns.find? (fun a => decide (n.toInt ≤ q_z S a))) 0 0 := c0_Tree_leastFrom l E S q n ns ht _ (fun _ _ h => h)

/-- where parentFor ends: par, and what hangs below it on the side of c -/
def q_place (S : qS) (q : Nat) (c : Int) (ns : List Nat) (par : Option Nat) : Prop := ∃ (row : Option Nat) (pre ms post_ : List Nat) (kd : Nat), ns = pre ++ ms ++ post_ ∧ (∀ b ∈ pre, q_z S b < c) ∧ (∀ b ∈ post_, c < q_z S b) ∧ q_cx (S.R 3) (S.R 4) (q_z S) c (S.R 7 q) par pre post_ ∧ q_side (S.R 3) (S.R 4) (q_z S) c (S.R 7 q) par = row ∧ q_bt (S.R 3) (S.R 4) kd row ms ∧ (row = none ∨ ∃ a, row = some a ∧ q_z S a = c)
set_option maxHeartbeats 4000000 in
set_option maxRecDepth 100000 in
theorem c0_Tree_parentFor (l : Launch) (E : qE) (S : qS) (q : Nat) (n : Int32) (ns : List Nat) (ht : q_tree S q ns) (post : Option Nat → qS → Prop) (hpost : ∀ r S1, S1 = S ∧ q_place S q n.toInt ns r → post r S1) : q_Mq l yX3_parentFor cX3_parentFor 4 (.object "ChunkShelf$Row") { frames := 0, cells := 0, slots := 0, locals := 0 } E [.ref q, .int n] S (post) 0 0 := by
  refine q_ofW1 (by decide) (q_1c rfl (q_1c rfl q_1n)) (Nat.le_of_ble_eq_true rfl) (fun p e s m below meth c C hV hr hlk hnm ls hl => ?_)
  have hl : lv_has ls 4 [(0, va_rf (some q)), (1, .int (n))] := hl
  obtain ⟨hL_q, hK_q, ⟨kd0, hb0⟩, hok, hso⟩ := ht
  have loop : ∀ (k : Nat) (kd : Nat) (row par : Option Nat) (pre ms post_ : List Nat) (ls : Array Slot), kd < k → lv_has ls 4 [(3, va_rf (row)), (2, va_rf (par)), (0, va_rf (some q)), (1, .int (n))] → q_bt (S.R 3) (S.R 4) kd row ms → ns = pre ++ ms ++ post_ → (∀ b ∈ pre, q_z S b < n.toInt) → (∀ b ∈ post_, n.toInt < q_z S b) → q_cx (S.R 3) (S.R 4) (q_z S) n.toInt (S.R 7 q) par pre post_ → q_side (S.R 3) (S.R 4) (q_z S) n.toInt (S.R 7 q) par = row → W p l e ({ frames := 0, cells := 0, slots := 0, locals := 0 } : Room) s m [.ref q, .int n].toArray below meth c s.heap [] (0) (0) (MQ below (va_Qq (post) (q_B E) E.A) [.ref q, .int n].toArray s (0) (0) E.A) (F0 m 7 ls []) := by
    intro k
    induction k with
    | zero => intro kd row par pre ms post_ ls hk; exact absurd hk (Nat.not_lt_zero _)
    | succ k ih =>
      intro kd row par pre ms post_ ls hk hl hb hns hpre hpo hcx hsd
      refine q_aload_n (r := row) C dX3_parentFor_7 rfl (lv_at hl 0 rfl) ?_
      refine q_ifnull (r := row) (tgt := 44) C dX3_parentFor_8 (by decide) (fun c8 => ?_) (fun x8 c8 => ?_)
      · subst c8
        refine q_aload_n (r := par) C dX3_parentFor_44 rfl (lv_at hl 1 rfl) ?_
        refine q_aret (r := par) C hV hr hlk (Nat.le_of_ble_eq_true rfl) (Nat.le_of_ble_eq_true rfl) dX3_parentFor_45 ?_
        exact hpost _ _ ⟨rfl, none, pre, ms, post_, kd, hns, hpre, hpo, hcx, hsd, hb, Or.inl rfl⟩
      · subst c8
        have hb_ := hb
        obtain ⟨kd', l1, l2, hkd, hms, hb1, hb2⟩ := q_bt_dec hb
        obtain ⟨hL_x8, hK_x8⟩ := hok x8 (by rw [hns, hms]; simp)
        refine q_aload_n (r := some x8) C dX3_parentFor_11 rfl (lv_at hl 0 rfl) ?_
        refine g_Row_cells C hV hL_x8 hK_x8 (Or.inr ⟨_, wd_71⟩) dX3_parentFor_12 ?_
        refine lv_iload_n C.1 C.2.1 dX3_parentFor_15 rfl (lv_at hl 3 rfl) ?_
        refine lv_icmp_eq (tgt := 44) C.1 C.2.1 dX3_parentFor_16 (by decide) (fun c16 => ?_) (fun c16 => ?_)
        · refine q_aload_n (r := par) C dX3_parentFor_44 rfl (lv_at hl 1 rfl) ?_
          refine q_aret (r := par) C hV hr hlk (Nat.le_of_ble_eq_true rfl) (Nat.le_of_ble_eq_true rfl) dX3_parentFor_45 ?_
          exact hpost _ _ ⟨rfl, some x8, pre, ms, post_, kd, hns, hpre, hpo, hcx, hsd, hb, Or.inr ⟨x8, rfl, q_i_eq.mp c16⟩⟩
        · subst hms
          have hmid := q_so_mid (z := q_z S) (l1 := l1) (a := x8) (l2 := l2) (by have h := hso; rw [hns] at h; exact (List.pairwise_append.mp (List.pairwise_append.mp h).1).2.1)
          refine q_aload_n (r := some x8) C dX3_parentFor_19 rfl (lv_at hl 0 rfl) ?_
          refine q_astore_n (r := some x8) (lv' := [(2, va_rf (some x8)), (3, va_rf (some x8)), (0, va_rf (some q)), (1, .int (n))]) C dX3_parentFor_20 rfl hl (by decide) (q_k0 (q_kN 0 rfl (by decide) (by decide) (q_kN 2 rfl (by decide) (by decide) (q_kC 3 rfl (by decide) rfl q_kz)))) (fun ls hl => ?_)
          refine lv_iload_n C.1 C.2.1 dX3_parentFor_21 rfl (lv_at hl 3 rfl) ?_
          refine q_aload_n (r := some x8) C dX3_parentFor_22 rfl (lv_at hl 1 rfl) ?_
          refine g_Row_cells C hV hL_x8 hK_x8 (Or.inr ⟨_, wd_71⟩) dX3_parentFor_23 ?_
          refine lv_icmp_ge (tgt := 36) C.1 C.2.1 dX3_parentFor_26 (by decide) (fun c26 => ?_) (fun c26 => ?_)
          · refine q_aload_n (r := some x8) C dX3_parentFor_36 rfl (lv_at hl 1 rfl) ?_
            refine g_Row_more C hV hL_x8 hK_x8 (Or.inr ⟨_, wd_76⟩) dX3_parentFor_37 ?_
            refine q_nr (fun r37 h37 => ?_)
            refine q_astore_n (r := r37) (lv' := [(3, va_rf (r37)), (2, va_rf (some x8)), (0, va_rf (some q)), (1, .int (n))]) C dX3_parentFor_40 rfl hl (by decide) (q_k0 (q_kC 0 rfl (by decide) (q_cat _) (q_kN 2 rfl (by decide) (by decide) (q_kN 3 rfl (by decide) (by decide) q_kz)))) (fun ls hl => ?_)
            refine lv_goto (tgt := 7) C.1 C.2.1 dX3_parentFor_41 (by decide) ?_
            have hz : q_z S x8 < n.toInt := by have h1 := q_i_le.mp c26; have h2 := mt q_i_eq.mpr c16; show (S.I 4 x8).toInt < n.toInt; omega
            exact ih kd' r37 (some x8) (pre ++ (l1 ++ [x8])) l2 post_ ls (by omega) hl (by rw [h37]; exact hb2) (by rw [hns]; simp [List.append_assoc]) (fun b hb => by
              rcases List.mem_append.mp hb with h | h
              · exact hpre b h
              · rcases List.mem_append.mp h with h | h
                · have := hmid.1 b h; omega
                · rw [List.mem_singleton.mp h]; exact hz) hpo (q_cx_mo hcx hsd (by omega) hb1 (by have h := q_so_nodup hso; rw [hns] at h; exact h)) (by simp only [q_side]; rw [if_neg (by omega), h37])
          · refine q_aload_n (r := some x8) C dX3_parentFor_29 rfl (lv_at hl 1 rfl) ?_
            refine g_Row_less C hV hL_x8 hK_x8 (Or.inr ⟨_, wd_75⟩) dX3_parentFor_30 ?_
            refine q_nr (fun r30 h30 => ?_)
            refine lv_goto (tgt := 40) C.1 C.2.1 dX3_parentFor_33 (by decide) ?_
            refine q_astore_n (r := r30) (lv' := [(3, va_rf (r30)), (2, va_rf (some x8)), (0, va_rf (some q)), (1, .int (n))]) C dX3_parentFor_40 rfl hl (by decide) (q_k0 (q_kC 0 rfl (by decide) (q_cat _) (q_kN 2 rfl (by decide) (by decide) (q_kN 3 rfl (by decide) (by decide) q_kz)))) (fun ls hl => ?_)
            refine lv_goto (tgt := 7) C.1 C.2.1 dX3_parentFor_41 (by decide) ?_
            have hz : n.toInt < q_z S x8 := by have := mt q_i_le.mpr c26; show n.toInt < (S.I 4 x8).toInt; omega
            exact ih kd' r30 (some x8) pre l1 (x8 :: l2 ++ post_) ls (by omega) hl (by rw [h30]; exact hb1) (by rw [hns]; simp [List.append_assoc]) hpre (fun b hb => by
              rcases List.mem_append.mp hb with h | h
              · rcases List.mem_cons.mp h with rfl | h
                · exact hz
                · have := hmid.2 b h; omega
              · exact hpo b h) (q_cx_le hcx hsd hz hb2 (by have h := q_so_nodup hso; rw [hns] at h; exact h)) (by simp only [q_side]; rw [if_pos hz, h30])
  refine lv_null C.1 C.2.1 dX3_parentFor_0 ?_
  refine q_astore_n (r := none) (lv' := [(2, va_rf (none)), (0, va_rf (some q)), (1, .int (n))]) C dX3_parentFor_1 rfl hl (by decide) (q_k0 (q_kN 0 rfl (by decide) (by decide) (q_kC 1 rfl (by decide) rfl q_kz))) (fun ls hl => ?_)
  refine q_aload_n (r := some q) C dX3_parentFor_2 rfl (lv_at hl 1 rfl) ?_
  refine g_Tree_root C hV hL_q hK_q (Or.inl wd_92) dX3_parentFor_3 ?_
  refine q_nr (fun r3 h3 => ?_)
  refine q_astore_n (r := r3) (lv' := [(3, va_rf (r3)), (2, va_rf (none)), (0, va_rf (some q)), (1, .int (n))]) C dX3_parentFor_6 rfl hl (by decide) (q_k0 (q_kC 0 rfl (by decide) (q_cat _) (q_kN 1 rfl (by decide) (by decide) (q_kN 2 rfl (by decide) (by decide) q_kz)))) (fun ls hl => ?_)
  exact loop (kd0 + 1) kd0 r3 none [] ns [] ls (Nat.lt_succ_self _) hl (by rw [h3]; exact hb0) (by simp) (fun _ h => nomatch h) (fun _ h => nomatch h) q_cx_0 (by simp only [q_side]; rw [h3])
theorem c_Tree_parentFor (l : Launch) (E : qE) (S : qS) (q : Nat) (n : Int32) (ns : List Nat) (ht : q_tree S q ns) : q_Mq l yX3_parentFor cX3_parentFor 4 (.object "ChunkShelf$Row") { frames := 0, cells := 0, slots := 0, locals := 0 } E [.ref q, .int n] S (fun r S1 => S1 = S ∧ q_place S q n.toInt ns r) 0 0 := c0_Tree_parentFor l E S q n ns ht _ (fun _ _ h => h)
end
section
/-! WHAT A CALL LEAVES AS IT WAS: old cells keep their kind; fields change only where cI, cR, cJ say -/
def q_fr (S S1 : qS) (cI cR cJ : Nat → Nat → Prop) : Prop := (∀ a ∈ S.L, a ∈ S1.L ∧ S1.K a = S.K a ∧ S1.N a = S.N a ∧ S1.A a = S.A a ∧ S1.B a = S.B a) ∧ (∀ a ∈ S.L, ∀ j, ¬ cI j a → S1.I j a = S.I j a) ∧ (∀ a ∈ S.L, ∀ j, ¬ cR j a → S1.R j a = S.R j a) ∧ ∀ a ∈ S.L, ∀ j, ¬ cJ j a → S1.J j a = S.J j a
theorem q_fr_rf {S : qS} {cI cR cJ : Nat → Nat → Prop} : q_fr S S cI cR cJ := ⟨fun _ h => ⟨h, rfl, rfl, rfl, rfl⟩, fun _ _ _ _ => rfl, fun _ _ _ _ => rfl, fun _ _ _ _ => rfl⟩
theorem q_fr_tr {S S1 S2 : qS} {cI cR cJ : Nat → Nat → Prop} (h : q_fr S S1 cI cR cJ) (h' : q_fr S1 S2 cI cR cJ) : q_fr S S2 cI cR cJ :=
  ⟨fun a ha => by
    obtain ⟨h1, h2, h3, h4, h5⟩ := h.1 a ha
    obtain ⟨g1, g2, g3, g4, g5⟩ := h'.1 a h1
    exact ⟨g1, g2.trans h2, g3.trans h3, g4.trans h4, g5.trans h5⟩, fun a ha j hj => (h'.2.1 a (h.1 a ha).1 j hj).trans (h.2.1 a ha j hj), fun a ha j hj => (h'.2.2.1 a (h.1 a ha).1 j hj).trans (h.2.2.1 a ha j hj), fun a ha j hj => (h'.2.2.2 a (h.1 a ha).1 j hj).trans (h.2.2.2 a ha j hj)⟩
theorem q_fr_mo {S S1 : qS} {cI cR cJ cI' cR' cJ' : Nat → Nat → Prop} (h : q_fr S S1 cI cR cJ) (h1 : ∀ j a, cI j a → cI' j a) (h2 : ∀ j a, cR j a → cR' j a) (h3 : ∀ j a, cJ j a → cJ' j a) : q_fr S S1 cI' cR' cJ' :=
  ⟨h.1, fun a ha j hj => h.2.1 a ha j (fun z => hj (h1 j a z)), fun a ha j hj => h.2.2.1 a ha j (fun z => hj (h2 j a z)), fun a ha j hj => h.2.2.2 a ha j (fun z => hj (h3 j a z))⟩
theorem q_fr_sR {S : qS} {k x : Nat} {v : Option Nat} {cI cR cJ : Nat → Nat → Prop} (h : cR k x) : q_fr S (S.sR k x v) cI cR cJ :=
  ⟨fun _ h => ⟨h, rfl, rfl, rfl, rfl⟩, fun _ _ _ _ => rfl, fun a _ j hj => by
    by_cases e : a = x
    · subst e
      have : j ≠ k := fun z => hj (z ▸ h)
      rw [qR_of _ _ _ _ this]
    · rw [qR_ne _ _ _ _ e], fun _ _ _ _ => rfl⟩
theorem q_fr_sI {S : qS} {k x : Nat} {v : Int32} {cI cR cJ : Nat → Nat → Prop} (h : cI k x) : q_fr S (S.sI k x v) cI cR cJ :=
  ⟨fun _ h => ⟨h, rfl, rfl, rfl, rfl⟩, fun a _ j hj => by
    by_cases e : a = x
    · subst e
      have : j ≠ k := fun z => hj (z ▸ h)
      rw [qI_of _ _ _ _ this]
    · rw [qI_ne _ _ _ _ e], fun _ _ _ _ => rfl, fun _ _ _ _ => rfl⟩
theorem q_fr_sJ {S : qS} {k x : Nat} {v : Int64} {cI cR cJ : Nat → Nat → Prop} (h : cJ k x) : q_fr S (S.sJ k x v) cI cR cJ :=
  ⟨fun _ h => ⟨h, rfl, rfl, rfl, rfl⟩, fun _ _ _ _ => rfl, fun _ _ _ _ => rfl, fun a _ j hj => by
    by_cases e : a = x
    · subst e
      have : j ≠ k := fun z => hj (z ▸ h)
      rw [qJ_of _ _ _ _ this]
    · rw [qJ_ne _ _ _ _ e]⟩
theorem q_fr_nO {S : qS} {q k : Nat} {cI cR cJ : Nat → Nat → Prop} (h : q ∉ S.L) : q_fr S (S.nO q k) cI cR cJ :=
  ⟨fun a ha => ⟨List.mem_append_left _ ha, va_up_ne _ _ (fun e => h (e ▸ ha)), rfl, rfl, rfl⟩, fun a ha j _ => va_up_ne _ _ (fun e => h (e ▸ ha)), fun a ha j _ => va_up_ne _ _ (fun e => h (e ▸ ha)), fun a ha j _ => va_up_ne _ _ (fun e => h (e ▸ ha))⟩
theorem q_nO_in (S : qS) (q k : Nat) : q ∈ (S.nO q k).L := List.mem_append_right _ (List.mem_singleton.mpr rfl)
theorem q_nO_K (S : qS) (q k : Nat) : (S.nO q k).K q = k := va_up_self _ _ _
/-- a tree's own fields -/
abbrev q_cT : Nat → Nat → Prop := fun j _ => j = 3 ∨ j = 4 ∨ j = 7
abbrev q_c0 : Nat → Nat → Prop := fun _ _ => False
theorem q_hang_fr {S : qS} {q : Nat} {par o : Option Nat} {n : Int32} {cI cJ : Nat → Nat → Prop} : q_fr S (q_hang S q par n o) cI q_cT cJ := by
  cases par with
  | none => exact q_fr_sR (Or.inr (Or.inr rfl))
  | some a =>
    show q_fr S (if n < S.I 4 a then S.sR 3 a o else S.sR 4 a o) _ _ _
    split
    · exact q_fr_sR (Or.inl rfl)
    · exact q_fr_sR (Or.inr (Or.inl rfl))
theorem q_hang_L {S : qS} {q : Nat} {par o : Option Nat} {n : Int32} : (q_hang S q par n o).L = S.L ∧ (q_hang S q par n o).K = S.K ∧ (q_hang S q par n o).I = S.I := by
  cases par with
  | none => exact ⟨rfl, rfl, rfl⟩
  | some a =>
    show (if n < S.I 4 a then S.sR 3 a o else S.sR 4 a o).L = _ ∧ (if n < S.I 4 a then S.sR 3 a o else S.sR 4 a o).K = _ ∧ (if n < S.I 4 a then S.sR 3 a o else S.sR 4 a o).I = _
    split <;> exact ⟨rfl, rfl, rfl⟩
theorem q_hang_R {S : qS} {q : Nat} {par o : Option Nat} {n : Int32} {j : Nat} (h : j ≠ 3 ∧ j ≠ 4 ∧ j ≠ 7) : (q_hang S q par n o).R j = S.R j := by
  cases par with
  | none => exact qR_of _ _ _ _ h.2.2
  | some a =>
    show (if n < S.I 4 a then S.sR 3 a o else S.sR 4 a o).R j = _
    split
    · exact qR_of _ _ _ _ h.1
    · exact qR_of _ _ _ _ h.2.1
/-- hung in its place, it is a tree again -/
theorem q_hung {S S' : qS} {q : Nat} {par o : Option Nat} {n : Int32} {pre ms post_ : List Nat} {k : Nat} (hcx : q_cx (S.R 3) (S.R 4) (q_z S) n.toInt (S.R 7 q) par pre post_) (hsame : ∀ x ∈ pre ++ post_, S'.R 3 x = S.R 3 x ∧ S'.R 4 x = S.R 4 x ∧ S'.I 4 x = S.I 4 x) (hroot : S'.R 7 q = S.R 7 q)
    (hap : ∀ x ∈ ms, x ∉ pre ++ post_) (hb : q_bt (S'.R 3) (S'.R 4) k o ms) : ∃ k', q_bt ((q_hang S' q par n o).R 3) ((q_hang S' q par n o).R 4) k' ((q_hang S' q par n o).R 7 q) (pre ++ ms ++ post_) := by
  cases par with
  | none =>
    refine hcx.2 _ _ _ k o ms (fun x hx _ => ?_) (fun a h => nomatch h) (fun _ => ?_) ?_
    · exact ⟨(hsame x hx).1, (hsame x hx).2.1⟩
    · exact qR_self S' 7 q o
    · exact hb
  | some a =>
    have ham := hcx.1 a rfl
    have ha := hsame a ham
    show ∃ k', q_bt ((if n < S'.I 4 a then S'.sR 3 a o else S'.sR 4 a o).R 3) ((if n < S'.I 4 a then S'.sR 3 a o else S'.sR 4 a o).R 4) k' ((if n < S'.I 4 a then S'.sR 3 a o else S'.sR 4 a o).R 7 q) (pre ++ ms ++ post_)
    by_cases hc : n < S'.I 4 a
    · have hz : n.toInt < q_z S a := by have h1 := q_i_lt.mp hc; rw [ha.2.2] at h1; exact h1
      rw [if_pos hc]
      refine hcx.2 _ _ _ k o ms (fun x hx hne => ?_) (fun b hb9 => ?_) (fun h => nomatch h) ?_
      · have hxa : x ≠ a := fun e => hne (by rw [e])
        exact ⟨(qR_ne _ _ _ _ hxa 3).trans (hsame x hx).1, (hsame x hx).2.1⟩
      · cases hb9
        rw [if_pos hz]
        exact ⟨⟨qR_self _ _ _ _, ha.2.1⟩, hroot⟩
      · exact q_bt_congr (fun x hx => ⟨qR_ne _ _ _ _ (fun e : x = a => hap x hx (by rw [e]; exact ham)) 3, rfl⟩) hb
    · have hz : ¬ n.toInt < q_z S a := fun h => hc (q_i_lt.mpr (by rw [ha.2.2]; exact h))
      rw [if_neg hc]
      refine hcx.2 _ _ _ k o ms (fun x hx hne => ?_) (fun b hb9 => ?_) (fun h => nomatch h) ?_
      · have hxa : x ≠ a := fun e => hne (by rw [e])
        exact ⟨(hsame x hx).1, (qR_ne _ _ _ _ hxa 4).trans (hsame x hx).2.1⟩
      · cases hb9
        rw [if_neg hz]
        exact ⟨⟨ha.1, qR_self _ _ _ _⟩, hroot⟩
      · exact q_bt_congr (fun x hx => ⟨rfl, qR_ne _ _ _ _ (fun e : x = a => hap x hx (by rw [e]; exact ham)) 4⟩) hb
set_option maxHeartbeats 4000000 in
set_option maxRecDepth 100000 in
theorem c0_Tree_heirOf (l : Launch) (E : qE) (S : qS) (g : Nat) (l1 l2 : List Nat) (kd0 : Nat) (hL_g : g ∈ S.L) (hK_g : S.K g = 1) (hb1 : q_bt (S.R 3) (S.R 4) kd0 (S.R 3 g) l1) (hb2 : q_bt (S.R 3) (S.R 4) kd0 (S.R 4 g) l2) (hok : ∀ a ∈ l2, a ∈ S.L ∧ S.K a = 1) (hnd : (l1 ++ g :: l2).Nodup) (post : Option Nat → qS → Prop) (hpost : ∀ r S1, ((S1 = S ∨ ∃ x ∈ l2, S1 = S.sR 3 x (S.R 3 g)) ∧ ∃ k, q_bt (S1.R 3) (S1.R 4) k r (l1 ++ l2)) → post r S1) : q_Mq l yX3_heirOf cX3_heirOf 2 (.object "ChunkShelf$Row") { frames := 0, cells := 0, slots := 0, locals := 0 } E [.ref g] S (post) 0 0 := by
  refine q_ofW1 (by decide) (q_1c rfl q_1n) (Nat.le_of_ble_eq_true rfl) (fun p e s m below meth c C hV hr hlk hnm ls hl => ?_)
  have hl : lv_has ls 2 [(0, va_rf (some g))] := hl
  refine q_aload_n (r := some g) C dX3_heirOf_0 rfl (lv_at hl 0 rfl) ?_
  refine g_Row_more C hV hL_g hK_g (Or.inr ⟨_, wd_76⟩) dX3_heirOf_1 ?_
  refine q_nr (fun r1 h1 => ?_)
  refine q_ifnonnull (r := r1) (tgt := 12) C dX3_heirOf_4 (by decide) (fun x4 c4 => ?_) (fun c4 => ?_)
  · subst c4
    have loop : ∀ (k : Nat) (kd : Nat) (a : Nat) (ms : List Nat) (ls : Array Slot), kd < k → lv_has ls 2 [(1, va_rf (some a)), (0, va_rf (some g))] → q_bt (S.R 3) (S.R 4) kd (some a) ms → ms.head? = l2.head? → (∀ x ∈ ms, x ∈ l2) → W p l e ({ frames := 0, cells := 0, slots := 0, locals := 0 } : Room) s m [.ref g].toArray below meth c s.heap [] (0) (0) (MQ below (va_Qq (post) (q_B E) E.A) [.ref g].toArray s (0) (0) E.A) (F0 m 17 ls []) := by
      intro k
      induction k with
      | zero => intro kd a ms ls hk; exact absurd hk (Nat.not_lt_zero _)
      | succ k ih =>
        intro kd a ms ls hk hl hb hhd hsub
        obtain ⟨hL_a, hK_a⟩ := hok a (hsub a (by obtain ⟨z1, z2, hz, -⟩ := q_bt_some hb; rw [hz]; simp))
        refine q_aload_n (r := some a) C dX3_heirOf_17 rfl (lv_at hl 0 rfl) ?_
        refine g_Row_less C hV hL_a hK_a (Or.inr ⟨_, wd_75⟩) dX3_heirOf_18 ?_
        refine q_nr (fun r18 h18 => ?_)
        refine q_ifnull (r := r18) (tgt := 32) C dX3_heirOf_21 (by decide) (fun c21 => ?_) (fun x21 c21 => ?_)
        · subst c21
          obtain ⟨kd', u1, u2, hkd, hu, hv1, hv2⟩ := q_bt_dec hb
          have hu0 : u1 = [] := by rw [← h18] at hv1; exact q_bt_nil hv1
          refine q_aload_n (r := some a) C dX3_heirOf_32 rfl (lv_at hl 0 rfl) ?_
          refine q_aload_n (r := some g) C dX3_heirOf_33 rfl (lv_at hl 1 rfl) ?_
          refine g_Row_less C hV hL_g hK_g (Or.inr ⟨_, wd_75⟩) dX3_heirOf_34 ?_
          refine q_tr (v' := S.R 3 g) (rfl) ?_
          refine p_Row_less (v := S.R 3 g) C hV hL_a hK_a (Or.inr ⟨_, wd_75⟩) dX3_heirOf_37 (fun H locs hV => ?_)
          refine q_aload_n (r := some g) C dX3_heirOf_40 rfl (lv_at hl 1 rfl) ?_
          refine g_Row_more C hV hL_g hK_g (Or.inr ⟨_, wd_76⟩) dX3_heirOf_41 ?_
          refine q_tr (v' := S.R 4 g) (rfl) ?_
          refine q_aret (r := S.R 4 g) C hV hr hlk (Nat.le_of_ble_eq_true rfl) (Nat.le_of_ble_eq_true rfl) dX3_heirOf_44 ?_
          have hsa : l2.head? = some a := hhd ▸ (by rw [hu, hu0]; rfl)
          refine hpost _ _ ⟨Or.inr ⟨a, hsub a (by rw [hu]; simp), rfl⟩, ?_⟩
          have hnd1 := List.nodup_append.mp hnd
          have hnd2 := List.nodup_cons.mp hnd1.2.1
          have ham : a ∈ l2 := hsub a (by rw [hu]; simp)
          have hag : a ∉ l1 := fun h => hnd1.2.2 a h a (List.mem_cons_of_mem _ ham) rfl
          have hdis : ∀ y ∈ l1, y ∉ l2 := fun y hy h => hnd1.2.2 y hy y (List.mem_cons_of_mem _ h) rfl
          obtain ⟨k', hk'⟩ := q_bt_low (x := a) (o := S.R 3 g) (l0 := l1) (k0 := kd0) (k := kd0) (a := x4) (ms := l2) (by rw [h1]; exact hb2) hsa hnd2.2 hag hdis h18.symm hb1
          refine ⟨k', ?_⟩
          have e3 : (S.sR 3 a (S.R 3 g)).R 3 = va_up (S.R 3) a (S.R 3 g) := qR_is _ _ _ _
          rw [e3]
          rw [h1] at hk'
          exact hk'
        · subst c21
          obtain ⟨kd', u1, u2, hkd, hu, hv1, hv2⟩ := q_bt_dec hb
          have hu1 : u1.head? = l2.head? := by
            cases u1 with
            | nil => rw [← h18] at hv1; obtain ⟨z1, z2, hz, -⟩ := q_bt_some hv1; simp at hz
            | cons y t => rw [← hhd, hu]; rfl
          refine q_aload_n (r := some a) C dX3_heirOf_24 rfl (lv_at hl 0 rfl) ?_
          refine g_Row_less C hV hL_a hK_a (Or.inr ⟨_, wd_75⟩) dX3_heirOf_25 ?_
          refine q_tr (v' := some x21) (h18.symm) ?_
          refine q_astore_n (r := some x21) (lv' := [(1, va_rf (some x21)), (0, va_rf (some g))]) C dX3_heirOf_28 rfl hl (by decide) (q_k0 (q_kC 1 rfl (by decide) (q_cat _) q_kz)) (fun ls hl => ?_)
          refine lv_goto (tgt := 17) C.1 C.2.1 dX3_heirOf_29 (by decide) ?_
          exact ih kd' x21 u1 ls (by omega) hl (by rw [h18]; exact hv1) hu1 (fun x hx => hsub x (by rw [hu]; simp [hx]))
    refine q_aload_n (r := some g) C dX3_heirOf_12 rfl (lv_at hl 0 rfl) ?_
    refine g_Row_more C hV hL_g hK_g (Or.inr ⟨_, wd_76⟩) dX3_heirOf_13 ?_
    refine q_tr (v' := some x4) (h1.symm) ?_
    refine q_astore_n (r := some x4) (lv' := [(1, va_rf (some x4)), (0, va_rf (some g))]) C dX3_heirOf_16 rfl hl (by decide) (q_k0 (q_kC 0 rfl (by decide) (q_cat _) q_kz)) (fun ls hl => ?_)
    exact loop (kd0 + 1) kd0 x4 l2 ls (Nat.lt_succ_self _) hl (by rw [h1]; exact hb2) rfl (fun _ h => h)
  · subst c4
    refine q_aload_n (r := some g) C dX3_heirOf_7 rfl (lv_at hl 0 rfl) ?_
    refine g_Row_less C hV hL_g hK_g (Or.inr ⟨_, wd_75⟩) dX3_heirOf_8 ?_
    refine q_nr (fun r8 h8 => ?_)
    refine q_aret (r := r8) C hV hr hlk (Nat.le_of_ble_eq_true rfl) (Nat.le_of_ble_eq_true rfl) dX3_heirOf_11 ?_
    have e2 : l2 = [] := by rw [← h1] at hb2; exact q_bt_nil hb2
    refine hpost _ _ ⟨Or.inl rfl, kd0, ?_⟩
    rw [e2, List.append_nil, h8]
    exact hb1
theorem c_Tree_heirOf (l : Launch) (E : qE) (S : qS) (g : Nat) (l1 l2 : List Nat) (kd0 : Nat) (hL_g : g ∈ S.L) (hK_g : S.K g = 1) (hb1 : q_bt (S.R 3) (S.R 4) kd0 (S.R 3 g) l1) (hb2 : q_bt (S.R 3) (S.R 4) kd0 (S.R 4 g) l2) (hok : ∀ a ∈ l2, a ∈ S.L ∧ S.K a = 1) (hnd : (l1 ++ g :: l2).Nodup) : q_Mq l yX3_heirOf cX3_heirOf 2 (.object "ChunkShelf$Row") { frames := 0, cells := 0, slots := 0, locals := 0 } E [.ref g] S (fun r S1 => (S1 = S ∨ ∃ x ∈ l2, S1 = S.sR 3 x (S.R 3 g)) ∧ ∃ k, q_bt (S1.R 3) (S1.R 4) k r (l1 ++ l2)) 0 0 := c0_Tree_heirOf l E S g l1 l2 kd0 hL_g hK_g hb1 hb2 hok hnd _ (fun _ _ h => h)

theorem q_tree_new {S : qS} {t q : Nat} {n : Int32} {ns : List Nat} (h : q_tree S t ns) (hq : q ∉ S.L) : q_tree ((S.nO q 1).sI 4 q n) t ns := by
  obtain ⟨h1, h2, ⟨k, h3⟩, h4, h5⟩ := h
  have ne : ∀ a ∈ S.L, a ≠ q := fun a ha e => hq (e ▸ ha)
  have eR : ∀ j, ∀ a ∈ S.L, ((S.nO q 1).sI 4 q n).R j a = S.R j a := fun j a ha => va_up_ne _ _ (ne a ha)
  have eI : ∀ a ∈ S.L, ((S.nO q 1).sI 4 q n).I 4 a = S.I 4 a := fun a ha => (qI_ne _ _ _ _ (ne a ha) 4).trans (va_up_ne _ _ (ne a ha))
  refine ⟨List.mem_append_left _ h1, (va_up_ne _ _ (ne t h1)).trans h2, ⟨k, ?_⟩, fun a ha => ⟨List.mem_append_left _ (h4 a ha).1, (va_up_ne _ _ (ne a (h4 a ha).1)).trans (h4 a ha).2⟩, ?_⟩
  · rw [eR 7 t h1]
    exact q_bt_congr (fun a ha => ⟨eR 3 a (h4 a ha).1, eR 4 a (h4 a ha).1⟩) h3
  · refine List.Pairwise.imp_of_mem ?_ h5
    intro a b ha hb hab
    show (((S.nO q 1).sI 4 q n).I 4 a).toInt < (((S.nO q 1).sI 4 q n).I 4 b).toInt
    rw [eI a (h4 a ha).1, eI b (h4 b hb).1]
    exact hab
theorem q_place_ok {S : qS} {t a : Nat} {c : Int} {ns : List Nat} {par : Option Nat} (h : q_tree S t ns) (hp : q_place S t c ns par) (ha : par = some a) : a ∈ S.L ∧ S.K a = 1 := by
  obtain ⟨row, pre, ms, post_, kd, hns, -, -, hcx, -⟩ := hp
  have := hcx.1 a ha
  exact h.2.2.2.1 a (by rw [hns]; simp only [List.mem_append] at this ⊢; rcases this with h | h <;> simp [h])
theorem q_made {S : qS} {t q : Nat} {n : Int32} {ns : List Nat} {par : Option Nat} (h : q_tree S t ns) (hno : ∀ b ∈ ns, q_z S b ≠ n.toInt) (hq : q ∉ S.L) (hp : q_place ((S.nO q 1).sI 4 q n) t n.toInt ns par) :
    q ∉ S.L ∧ q_fr S (q_hang ((S.nO q 1).sI 4 q n) t par n (some q)) q_c0 q_cT q_c0 ∧ q ∈ (q_hang ((S.nO q 1).sI 4 q n) t par n (some q)).L ∧ (q_hang ((S.nO q 1).sI 4 q n) t par n (some q)).K q = 1 ∧ (q_hang ((S.nO q 1).sI 4 q n) t par n (some q)).I 4 q = n ∧ (q_hang ((S.nO q 1).sI 4 q n) t par n (some q)).R 2 q = none ∧
      ∃ pre post_, ns = pre ++ post_ ∧ q_tree (q_hang ((S.nO q 1).sI 4 q n) t par n (some q)) t (pre ++ q :: post_) := by
  have h0 := q_tree_new (n := n) h hq
  have ne : ∀ a ∈ S.L, a ≠ q := fun a ha e => hq (e ▸ ha)
  generalize hS' : (S.nO q 1).sI 4 q n = S' at h0 hp ⊢
  have eL := (q_hang_L (S := S') (q := t) (par := par) (o := some q) (n := n)).1
  have eK := (q_hang_L (S := S') (q := t) (par := par) (o := some q) (n := n)).2.1
  have eI := (q_hang_L (S := S') (q := t) (par := par) (o := some q) (n := n)).2.2
  have hqL : q ∈ S'.L := by rw [← hS']; exact q_nO_in S q 1
  have hqK : S'.K q = 1 := by rw [← hS']; exact q_nO_K S q 1
  have hqI : S'.I 4 q = n := by rw [← hS']; exact qI_self _ _ _ _
  have hqR : ∀ j, S'.R j q = none := fun j => by rw [← hS']; exact va_up_self _ _ _
  have hfr : q_fr S S' q_c0 q_cT q_c0 := by
    rw [← hS']
    refine ⟨fun a ha => ⟨List.mem_append_left _ ha, va_up_ne _ _ (ne a ha), rfl, rfl, rfl⟩, fun a ha j _ => (qI_ne _ _ _ _ (ne a ha) j).trans (va_up_ne _ _ (ne a ha)), fun a ha j _ => va_up_ne _ _ (ne a ha), fun a ha j _ => va_up_ne _ _ (ne a ha)⟩
  have ez : ∀ a ∈ S.L, q_z S' a = q_z S a := fun a ha => by show (S'.I 4 a).toInt = (S.I 4 a).toInt; rw [hfr.2.1 a ha 4 (fun z => z)]
  obtain ⟨row, pre, ms, post_, kd, hns, hpre, hpo, hcx, hsd, hb, hrow⟩ := hp
  have hms : ms = [] := by
    rcases hrow with hr | ⟨a, hr, hz⟩
    · rw [hr] at hb; exact q_bt_nil hb
    · exfalso
      rw [hr] at hb
      obtain ⟨z1, z2, hm, -⟩ := q_bt_some hb
      have ham : a ∈ ns := by rw [hns, hm]; simp
      exact hno a ham (by rw [← ez a (h.2.2.2.1 a ham).1]; exact hz)
  subst hms
  have hqn : ∀ x ∈ ns, x ≠ q := fun x hx => ne x (h.2.2.2.1 x hx).1
  have hbq : q_bt (S'.R 3) (S'.R 4) 1 (some q) [q] := Or.inr ⟨q, [], [], rfl, rfl, ⟨hqR 3, rfl⟩, ⟨hqR 4, rfl⟩⟩
  obtain ⟨k', hk'⟩ := q_hung (S := S') (S' := S') (q := t) (n := n) (o := some q) (ms := [q]) hcx (fun x _ => ⟨rfl, rfl, rfl⟩) rfl (fun x hx hm => by
    rw [List.mem_singleton.mp hx] at hm
    exact hqn q (by rw [hns]; simpa using hm) rfl) hbq
  refine ⟨hq, q_fr_tr hfr q_hang_fr, by rw [eL]; exact hqL, by rw [eK]; exact hqK, by rw [eI]; exact hqI, (congrFun (q_hang_R ⟨by decide, by decide, by decide⟩) q).trans (hqR 2), pre, post_, by simpa using hns, ?_, ?_, ⟨k', by simpa [List.append_assoc] using hk'⟩, ?_, ?_⟩
  · rw [eL]; exact h0.1
  · rw [eK]; exact h0.2.1
  · intro a ha
    rw [eL, eK]
    simp only [List.mem_append, List.mem_cons] at ha
    rcases ha with ha | rfl | ha
    · exact h0.2.2.2.1 a (by rw [hns]; simp [ha])
    · exact ⟨hqL, hqK⟩
    · exact h0.2.2.2.1 a (by rw [hns]; simp [ha])
  · have e2 : q_z (q_hang S' t par n (some q)) = q_z S' := funext fun a => by show ((q_hang S' t par n (some q)).I 4 a).toInt = _; rw [eI]; rfl
    rw [e2]
    have hso := h0.2.2.2.2
    rw [hns, List.append_nil] at hso
    have hso2 := List.pairwise_append.mp hso
    have hzq : q_z S' q = n.toInt := by show (S'.I 4 q).toInt = _; rw [hqI]
    refine List.pairwise_append.mpr ⟨hso2.1, List.pairwise_cons.mpr ⟨fun b hb => by rw [hzq]; exact hpo b hb, hso2.2.1⟩, fun a ha b hb => ?_⟩
    rcases List.mem_cons.mp hb with rfl | hb
    · rw [hzq]; exact hpre a ha
    · exact hso2.2.2 a ha b hb
set_option maxHeartbeats 4000000 in
set_option maxRecDepth 100000 in
theorem c0_Tree_rowMadeFor (l : Launch) (E : qE) (S : qS) (q : Nat) (n : Int32) (ns : List Nat) (ht : q_tree S q ns) (post : Option Nat → qS → Prop) (hpost : ∀ r S1, (∃ a, r = some a ∧ ((S1 = S ∧ a ∈ ns ∧ q_z S a = n.toInt) ∨ (a ∉ S.L ∧ q_fr S S1 q_c0 q_cT q_c0 ∧ a ∈ S1.L ∧ S1.K a = 1 ∧ S1.I 4 a = n ∧ S1.R 2 a = none ∧ ∃ pre post_, ns = pre ++ post_ ∧ q_tree S1 q (pre ++ a :: post_)))) → post r S1) : q_Mq l yX3_rowMadeFor cX3_rowMadeFor 3 (.object "ChunkShelf$Row") { frames := 2, cells := 1, slots := 4, locals := 33 } E [.ref q, .int n] S (post) 1 4 := by
  refine q_ofW1 (by decide) (q_1c rfl (q_1c rfl q_1n)) (Nat.le_of_ble_eq_true rfl) (fun p e s m below meth c C hV hr hlk hnm ls hl => ?_)
  have hl : lv_has ls 3 [(0, va_rf (some q)), (1, .int (n))] := hl
  have ht0 := ht
  obtain ⟨hL_q, hK_q, hb0, hok, hso⟩ := ht
  refine q_aload_n (r := some q) C dX3_rowMadeFor_0 rfl (lv_at hl 0 rfl) ?_
  refine lv_iload_n C.1 C.2.1 dX3_rowMadeFor_1 rfl (lv_at hl 1 rfl) ?_
  refine q_cq hV (q_rV (b := q) (As := [.int (n)]) (rest := []) C hV (c_Tree_rowOf l E S q n ns ht0) wd_162 wd_159 wd_161 wd_4 wd_40 ok_X3_rowOf ⟨rfl, rfl, Nat.le_of_ble_eq_true rfl, Nat.le_of_ble_eq_true rfl⟩ (q_rc3 hV hL_q hK_q) rfl hl.1 rfl (q_sm q_1n (Nat.le_of_ble_eq_true rfl)) dX3_rowMadeFor_2 ⟨Nat.le_of_ble_eq_true rfl, Nat.le_of_ble_eq_true rfl⟩) (fun r2 S2 H locs hp2 hV => ?_)
  obtain ⟨eS2, hp2⟩ := hp2
  rw [eS2] at hV
  refine q_astore_n (r := r2) (lv' := [(2, va_rf (r2)), (0, va_rf (some q)), (1, .int (n))]) C dX3_rowMadeFor_5 rfl hl (by decide) (q_k0 (q_kN 0 rfl (by decide) (by decide) (q_kC 1 rfl (by decide) rfl q_kz))) (fun ls hl => ?_)
  refine q_aload_n (r := r2) C dX3_rowMadeFor_6 rfl (lv_at hl 0 rfl) ?_
  refine q_ifnonnull (r := r2) (tgt := 30) C dX3_rowMadeFor_7 (by decide) (fun x7 c7 => ?_) (fun c7 => ?_)
  · subst c7
    refine q_aload_n (r := some x7) C dX3_rowMadeFor_30 rfl (lv_at hl 0 rfl) ?_
    refine q_aret (r := some x7) C hV hr hlk (Nat.le_of_ble_eq_true rfl) (Nat.le_of_ble_eq_true rfl) dX3_rowMadeFor_31 ?_
    obtain ⟨hm1, hm2⟩ := (List.find?_eq_some_iff_append.mp hp2.symm)
    exact hpost _ _ ⟨x7, rfl, Or.inl ⟨rfl, List.mem_of_find?_eq_some hp2.symm, by simpa using hm1⟩⟩
  · subst c7
    refine n_Row C hV wd_163 (Nat.le_of_ble_eq_true rfl) (Nat.le_of_ble_eq_true rfl) dX3_rowMadeFor_10 (fun q10 H hq10 hV => ?_)
    have hL_q1 : q ∈ ((S.nO q10 1).sI 4 q10 n).L := List.mem_append_left _ hL_q
    have hK_q1 : ((S.nO q10 1).sI 4 q10 n).K q = 3 := (va_up_ne _ _ (fun e : q = q10 => hq10 (by rw [← e]; exact hL_q))).trans hK_q
    refine lv_dup C.1 C.2.1 dX3_rowMadeFor_13 rfl ?_
    refine lv_iload_n C.1 C.2.1 dX3_rowMadeFor_14 rfl (lv_at hl 2 rfl) ?_
    refine q_cv hV (q_rI (b := q10) (As := [.int (n)]) (rest := [va_rf (some q10)]) C hV (c_Row_init l E (S.nO q10 1) q10 n (q_nO_in _ _ _) (q_nO_K _ _ _)) wd_68 (Or.inr ⟨_, wd_164⟩) wd_67 wd_39 rfl ok_X1_init ⟨rfl, rfl, Nat.le_of_ble_eq_true rfl, Nat.le_of_ble_eq_true rfl⟩ rfl hl.1 rfl (q_sm (q_1c (q_cat _) q_1n) (Nat.le_of_ble_eq_true rfl)) dX3_rowMadeFor_15 ⟨Nat.le_of_ble_eq_true rfl, Nat.le_of_ble_eq_true rfl⟩) (fun S15 H locs hp15 hV => ?_)
    subst hp15
    refine q_astore_n (r := some q10) (lv' := [(2, va_rf (some q10)), (0, va_rf (some q)), (1, .int (n))]) C dX3_rowMadeFor_18 rfl hl (by decide) (q_k0 (q_kN 1 rfl (by decide) (by decide) (q_kC 2 rfl (by decide) rfl q_kz))) (fun ls hl => ?_)
    refine q_aload_n (r := some q) C dX3_rowMadeFor_19 rfl (lv_at hl 1 rfl) ?_
    refine q_aload_n (r := some q) C dX3_rowMadeFor_20 rfl (lv_at hl 1 rfl) ?_
    refine lv_iload_n C.1 C.2.1 dX3_rowMadeFor_21 rfl (lv_at hl 2 rfl) ?_
    refine q_cq hV (q_rV (b := q) (As := [.int (n)]) (rest := [va_rf (some q)]) C hV (c_Tree_parentFor l E _ q n ns (q_tree_new ht0 hq10)) wd_168 wd_165 wd_167 wd_5 wd_40 ok_X3_parentFor ⟨rfl, rfl, Nat.le_of_ble_eq_true rfl, Nat.le_of_ble_eq_true rfl⟩ (q_rc3 hV hL_q1 hK_q1) rfl hl.1 rfl (q_sm (q_1c (q_cat _) q_1n) (Nat.le_of_ble_eq_true rfl)) dX3_rowMadeFor_22 ⟨Nat.le_of_ble_eq_true rfl, Nat.le_of_ble_eq_true rfl⟩) (fun r22 S22 H locs hp22 hV => ?_)
    obtain ⟨eS22, hp22⟩ := hp22
    rw [eS22] at hV
    refine lv_iload_n C.1 C.2.1 dX3_rowMadeFor_25 rfl (lv_at hl 2 rfl) ?_
    refine q_aload_n (r := some q10) C dX3_rowMadeFor_26 rfl (lv_at hl 0 rfl) ?_
    refine q_cv hV (q_rV (b := q) (As := [va_rf (r22), .int (n), va_rf (some q10)]) (rest := []) C hV (c_Tree_hang l E _ q r22 n (some q10) hL_q1 hK_q1 (fun a ha => q_place_ok (q_tree_new ht0 hq10) hp22 ha)) wd_172 wd_169 wd_171 wd_6 wd_40 ok_X3_hang ⟨rfl, rfl, Nat.le_of_ble_eq_true rfl, Nat.le_of_ble_eq_true rfl⟩ (q_rc3 hV hL_q1 hK_q1) rfl hl.1 rfl (q_sm q_1n (Nat.le_of_ble_eq_true rfl)) dX3_rowMadeFor_27 ⟨Nat.le_of_ble_eq_true rfl, Nat.le_of_ble_eq_true rfl⟩) (fun S27 H locs hp27 hV => ?_)
    refine q_aload_n (r := some q10) C dX3_rowMadeFor_30 rfl (lv_at hl 0 rfl) ?_
    refine q_aret (r := some q10) C hV hr hlk (Nat.le_of_ble_eq_true rfl) (Nat.le_of_ble_eq_true rfl) dX3_rowMadeFor_31 ?_
    subst hp27
    exact hpost _ _ ⟨q10, rfl, Or.inr (q_made ht0 (fun b hb => by simpa using List.find?_eq_none.mp hp2.symm b hb) hq10 hp22)⟩
theorem c_Tree_rowMadeFor (l : Launch) (E : qE) (S : qS) (q : Nat) (n : Int32) (ns : List Nat) (ht : q_tree S q ns) : q_Mq l yX3_rowMadeFor cX3_rowMadeFor 3 (.object "ChunkShelf$Row") { frames := 2, cells := 1, slots := 4, locals := 33 } E [.ref q, .int n] S (fun r S1 => ∃ a, r = some a ∧ ((S1 = S ∧ a ∈ ns ∧ q_z S a = n.toInt) ∨ (a ∉ S.L ∧ q_fr S S1 q_c0 q_cT q_c0 ∧ a ∈ S1.L ∧ S1.K a = 1 ∧ S1.I 4 a = n ∧ S1.R 2 a = none ∧ ∃ pre post_, ns = pre ++ post_ ∧ q_tree S1 q (pre ++ a :: post_)))) 1 4 := c0_Tree_rowMadeFor l E S q n ns ht _ (fun _ _ h => h)
end
section
theorem q_split {l1 l2 r1 r2 : List Nat} {g : Nat} (h : l1 ++ g :: r1 = l2 ++ g :: r2) (hn : (l1 ++ g :: r1).Nodup) : l1 = l2 ∧ r1 = r2 := by
  induction l1 generalizing l2 with
  | nil =>
    cases l2 with
    | nil => simp at h; exact ⟨rfl, h⟩
    | cons b t =>
      simp at h
      obtain ⟨rfl, h2⟩ := h
      rw [h2] at hn
      simp at hn
  | cons a t ih =>
    cases l2 with
    | nil =>
      simp at h
      obtain ⟨rfl, h2⟩ := h
      simp at hn
    | cons b t2 =>
      simp at h
      obtain ⟨rfl, h2⟩ := h
      have hn2 : (t ++ g :: r1).Nodup := (List.nodup_cons.mp hn).2
      obtain ⟨e1, e2⟩ := ih h2 hn2
      exact ⟨by rw [e1], e2⟩
theorem q_found {S : qS} {q g : Nat} {pre post_ : List Nat} {par : Option Nat} (ht : q_tree S q (pre ++ g :: post_)) (hp : q_place S q (q_z S g) (pre ++ g :: post_) par) : ∃ (pre1 l1 l2 post1 : List Nat) (kd : Nat), pre = pre1 ++ l1 ∧ post_ = l2 ++ post1 ∧ q_cx (S.R 3) (S.R 4) (q_z S) (q_z S g) (S.R 7 q) par pre1 post1 ∧ q_bt (S.R 3) (S.R 4) kd (S.R 3 g) l1 ∧ q_bt (S.R 3) (S.R 4) kd (S.R 4 g) l2 := by
  obtain ⟨row, pre1, ms, post1, kd, hns, hpre, hpo, hcx, hsd, hb, hrow⟩ := hp
  have hso := ht.2.2.2.2
  have hgm : g ∈ ms := by
    have : g ∈ pre1 ++ ms ++ post1 := by rw [← hns]; simp
    rcases List.mem_append.mp this with h | h
    · rcases List.mem_append.mp h with h | h
      · have := hpre g h; omega
      · exact h
    · have := hpo g h; omega
  rcases hrow with hr | ⟨a, hr, hz⟩
  · rw [hr] at hb
    rw [q_bt_nil hb] at hgm
    cases hgm
  · rw [hr] at hb
    obtain ⟨l1, l2, hm, hb1, hb2⟩ := q_bt_some hb
    have hso2 := hso
    rw [hns] at hso2
    have hmid := q_so_mid (z := q_z S) (l1 := l1) (a := a) (l2 := l2) (by rw [hm] at hso2; exact (List.pairwise_append.mp (List.pairwise_append.mp hso2).1).2.1)
    have hga : g = a := by
      rw [hm] at hgm
      rcases List.mem_append.mp hgm with h | h
      · have := hmid.1 g h; omega
      · rcases List.mem_cons.mp h with h | h
        · exact h
        · have := hmid.2 g h; omega
    subst hga
    have hnd := q_so_nodup hso
    have e : pre ++ g :: post_ = (pre1 ++ l1) ++ g :: (l2 ++ post1) := by rw [hns, hm]; simp [List.append_assoc]
    obtain ⟨e1, e2⟩ := q_split e hnd
    exact ⟨pre1, l1, l2, post1, kd, e1, e2, hcx, hb1, hb2⟩
theorem q_removed {S S' : qS} {q g : Nat} {pre1 l1 l2 post1 : List Nat} {par o : Option Nat} {n : Int32} {k : Nat} (ht : q_tree S q ((pre1 ++ l1) ++ g :: (l2 ++ post1))) (hn : n.toInt = q_z S g) (hcx : q_cx (S.R 3) (S.R 4) (q_z S) (q_z S g) (S.R 7 q) par pre1 post1)
    (hS' : S' = S ∨ ∃ x ∈ l2, S' = S.sR 3 x (S.R 3 g)) (hb : q_bt (S'.R 3) (S'.R 4) k o (l1 ++ l2)) : q_fr S (q_hang S' q par n o) q_c0 q_cT q_c0 ∧ q_tree (q_hang S' q par n o) q ((pre1 ++ l1) ++ (l2 ++ post1)) := by
  have hnd := q_so_nodup ht.2.2.2.2
  have e0 : (pre1 ++ l1) ++ g :: (l2 ++ post1) = pre1 ++ (l1 ++ g :: l2) ++ post1 := by simp [List.append_assoc]
  rw [e0] at hnd
  obtain ⟨-, -, hap⟩ := q_nd3 hnd
  have hI : S'.I = S.I ∧ S'.L = S.L ∧ S'.K = S.K ∧ S'.R 4 = S.R 4 ∧ S'.R 7 = S.R 7 := by
    rcases hS' with h | ⟨x, -, h⟩ <;> subst h <;> exact ⟨rfl, rfl, rfl, rfl, rfl⟩
  have h3 : ∀ x ∈ pre1 ++ post1, S'.R 3 x = S.R 3 x := by
    intro x hx
    rcases hS' with h | ⟨y, hy, h⟩
    · rw [h]
    · rw [h]
      exact qR_ne _ _ _ _ (fun e : x = y => (hap x hx).2.2 (by rw [e]; exact hy)) 3
  have hfr : q_fr S S' q_c0 q_cT q_c0 := by
    rcases hS' with h | ⟨x, -, h⟩ <;> subst h
    · exact q_fr_rf
    · exact q_fr_sR (Or.inl rfl)
  rw [← hn] at hcx
  obtain ⟨k', hk'⟩ := q_hung (S := S) (S' := S') (q := q) (n := n) (o := o) (ms := l1 ++ l2) hcx (fun x hx => ⟨h3 x hx, by rw [hI.2.2.2.1], by rw [hI.1]⟩) (by rw [hI.2.2.2.2]) (fun x hx hm => by
    rcases List.mem_append.mp hx with h | h
    · exact (hap x hm).2.1 h
    · exact (hap x hm).2.2 h) hb
  have eH := q_hang_L (S := S') (q := q) (par := par) (o := o) (n := n)
  refine ⟨q_fr_tr hfr q_hang_fr, by rw [eH.1, hI.2.1]; exact ht.1, by rw [eH.2.1, hI.2.2.1]; exact ht.2.1, ⟨k', by simpa [List.append_assoc] using hk'⟩, fun a ha => ?_, ?_⟩
  · rw [eH.1, hI.2.1, eH.2.1, hI.2.2.1]
    exact ht.2.2.2.1 a (by simp only [List.mem_append, List.mem_cons] at ha ⊢; rcases ha with (h | h) | h | h <;> simp [h])
  · have e2 : q_z (q_hang S' q par n o) = q_z S := funext fun a => by show ((q_hang S' q par n o).I 4 a).toInt = _; rw [eH.2.2, hI.1]; rfl
    rw [e2]
    have hso := List.pairwise_append.mp ht.2.2.2.2
    exact List.pairwise_append.mpr ⟨hso.1, (List.pairwise_cons.mp hso.2.1).2, fun a ha b hb => hso.2.2 a ha b (List.mem_cons_of_mem _ hb)⟩
set_option maxHeartbeats 4000000 in
set_option maxRecDepth 100000 in
theorem c0_Tree_remove (l : Launch) (E : qE) (S : qS) (q g : Nat) (pre post_ : List Nat) (ht : q_tree S q (pre ++ g :: post_)) (post : qS → Prop) (hpost : ∀ S1, (q_fr S S1 q_c0 q_cT q_c0 ∧ q_tree S1 q (pre ++ post_)) → post S1) : q_Mv l yX3_remove cX3_remove 2 { frames := 1, cells := 0, slots := 0, locals := 23 } E [.ref q, .ref g] S (post) 0 0 := by
  refine q_ofW1 (by decide) (q_1c rfl (q_1c rfl q_1n)) (Nat.le_of_ble_eq_true rfl) (fun p e s m below meth c C hV hr hlk hnm ls hl => ?_)
  have hl : lv_has ls 2 [(0, va_rf (some q)), (1, va_rf (some g))] := hl
  have hL_q := ht.1
  have hK_q := ht.2.1
  obtain ⟨hL_g, hK_g⟩ := ht.2.2.2.1 g (by simp)
  refine q_aload_n (r := some q) C dX3_remove_0 rfl (lv_at hl 0 rfl) ?_
  refine q_aload_n (r := some q) C dX3_remove_1 rfl (lv_at hl 0 rfl) ?_
  refine q_aload_n (r := some g) C dX3_remove_2 rfl (lv_at hl 1 rfl) ?_
  refine g_Row_cells C hV hL_g hK_g (Or.inr ⟨_, wd_71⟩) dX3_remove_3 ?_
  refine q_cq hV (q_rV (b := q) (As := [.int (S.I 4 g)]) (rest := [va_rf (some q)]) C hV (c_Tree_parentFor l E S q (S.I 4 g) _ ht) wd_168 wd_165 wd_167 wd_5 wd_40 ok_X3_parentFor ⟨rfl, rfl, Nat.le_of_ble_eq_true rfl, Nat.le_of_ble_eq_true rfl⟩ (q_rc3 hV hL_q hK_q) rfl hl.1 rfl (q_sm (q_1c (q_cat _) q_1n) (Nat.le_of_ble_eq_true rfl)) dX3_remove_6 ⟨Nat.le_of_ble_eq_true rfl, Nat.le_of_ble_eq_true rfl⟩) (fun r6 S6 H locs hp6 hV => ?_)
  obtain ⟨eS6, hp6⟩ := hp6
  rw [eS6] at hV
  have hpo6 := fun a ha => q_place_ok (a := a) ht hp6 ha
  obtain ⟨pre1, l1, l2, post1, kd, rfl, rfl, hcx, hb1, hb2⟩ := q_found ht hp6
  have hnd14 : (l1 ++ g :: l2).Nodup := by
    have h := q_so_nodup ht.2.2.2.2
    have e0 : (pre1 ++ l1) ++ g :: (l2 ++ post1) = pre1 ++ (l1 ++ g :: l2) ++ post1 := by simp [List.append_assoc]
    rw [e0] at h
    exact (List.nodup_append.mp (List.nodup_append.mp h).1).2.1
  refine q_aload_n (r := some g) C dX3_remove_9 rfl (lv_at hl 1 rfl) ?_
  refine g_Row_cells C hV hL_g hK_g (Or.inr ⟨_, wd_71⟩) dX3_remove_10 ?_
  refine q_aload_n (r := some g) C dX3_remove_13 rfl (lv_at hl 1 rfl) ?_
  refine q_cq hV (q_rS (As := [va_rf (some g)]) (rest := [.int (S.I 4 g), va_rf (r6), va_rf (some q)]) C hV (c_Tree_heirOf l E S g l1 l2 kd hL_g hK_g hb1 hb2 (fun a ha => ht.2.2.2.1 a (by simp [ha])) hnd14) wd_217 wd_215 wd_216 wd_40 ok_X3_heirOf ⟨rfl, rfl, Nat.le_of_ble_eq_true rfl, Nat.le_of_ble_eq_true rfl⟩ rfl hl.1 rfl (q_sm (q_1c rfl (q_1c (q_cat _) (q_1c (q_cat _) q_1n))) (Nat.le_of_ble_eq_true rfl)) dX3_remove_14 ⟨Nat.le_of_ble_eq_true rfl, Nat.le_of_ble_eq_true rfl⟩) (fun r14 S14 H locs hp14 hV => ?_)
  have hLK : S14.L = S.L ∧ S14.K = S.K := by rcases hp14.1 with h | ⟨x, -, h⟩ <;> subst h <;> exact ⟨rfl, rfl⟩
  have hL_q1 : q ∈ S14.L := by rw [hLK.1]; exact hL_q
  have hK_q1 : S14.K q = 3 := by rw [hLK.2]; exact hK_q
  have hpar : ∀ a, r6 = some a → a ∈ S14.L ∧ S14.K a = 1 := fun a ha => by rw [hLK.1, hLK.2]; exact hpo6 a ha
  refine q_cv hV (q_rV (b := q) (As := [va_rf (r6), .int (S.I 4 g), va_rf (r14)]) (rest := []) C hV (c_Tree_hang l E S14 q r6 (S.I 4 g) r14 hL_q1 hK_q1 hpar) wd_172 wd_169 wd_171 wd_6 wd_40 ok_X3_hang ⟨rfl, rfl, Nat.le_of_ble_eq_true rfl, Nat.le_of_ble_eq_true rfl⟩ (q_rc3 hV hL_q1 hK_q1) rfl hl.1 rfl (q_sm q_1n (Nat.le_of_ble_eq_true rfl)) dX3_remove_17 ⟨Nat.le_of_ble_eq_true rfl, Nat.le_of_ble_eq_true rfl⟩) (fun S17 H locs hp17 hV => ?_)
  refine q_vret C hV hr hlk (Nat.le_of_ble_eq_true rfl) (Nat.le_of_ble_eq_true rfl) dX3_remove_20 ?_
  subst hp17
  obtain ⟨hS14, k14, hb14⟩ := hp14
  exact hpost _ (q_removed (n := S.I 4 g) ht rfl hcx hS14 hb14)
theorem c_Tree_remove (l : Launch) (E : qE) (S : qS) (q g : Nat) (pre post_ : List Nat) (ht : q_tree S q (pre ++ g :: post_)) : q_Mv l yX3_remove cX3_remove 2 { frames := 1, cells := 0, slots := 0, locals := 23 } E [.ref q, .ref g] S (fun S1 => q_fr S S1 q_c0 q_cT q_c0 ∧ q_tree S1 q (pre ++ post_)) 0 0 := c0_Tree_remove l E S q g pre post_ ht _ (fun _ h => h)

/-- g taken out of the chain from pp -/
def q_dr (S S1 : qS) (g : Nat) (pp : Option Nat) (rest : List Nat) : Prop := q_fr S S1 q_c0 (fun j x => j = 1 ∧ x ∈ rest) q_c0 ∧ S1.L = S.L ∧ q_ch (S1.R 1) pp (rest.erase g)
theorem q_dr_skip {S S1 : qS} {g x : Nat} {t : List Nat} (hx : x ∈ S.L) (hxt : x ∉ t) (hg : x ≠ g) (h : q_dr S S1 g (S.R 1 x) t) : q_dr S S1 g (some x) (x :: t) := by
  obtain ⟨h1, h2, h3⟩ := h
  refine ⟨q_fr_mo h1 (fun _ _ z => z) (fun j a z => ⟨z.1, List.mem_cons_of_mem _ z.2⟩) (fun _ _ z => z), h2, ?_⟩
  rw [List.erase_cons_tail (by simpa using hg)]
  refine ⟨rfl, ?_⟩
  rw [h1.2.2.1 x hx 1 (fun z => hxt z.2)]
  exact h3
theorem q_dr_cut {S S1 : qS} {g x : Nat} {t : List Nat} (hx : x ∈ S.L) (hxt : x ∉ g :: t) (hgt : g ∉ t) (h : q_dr (S.sR 1 x (S.R 1 g)) S1 g (S.R 1 g) t) : q_dr S S1 g (some x) (x :: g :: t) := by
  obtain ⟨h1, h2, h3⟩ := h
  have hxg : x ≠ g := fun e => hxt (by rw [e]; exact List.mem_cons_self)
  refine ⟨q_fr_tr (q_fr_sR ⟨rfl, List.mem_cons_self⟩) (q_fr_mo h1 (fun _ _ z => z) (fun j a z => ⟨z.1, List.mem_cons_of_mem _ (List.mem_cons_of_mem _ z.2)⟩) (fun _ _ z => z)), h2, ?_⟩
  rw [List.erase_cons_tail (by simpa using hxg), List.erase_cons_head]
  rw [List.erase_of_not_mem hgt] at h3
  refine ⟨rfl, ?_⟩
  have e : S1.R 1 x = S.R 1 g := (h1.2.2.1 x hx 1 (fun z => hxt (List.mem_cons_of_mem _ z.2))).trans (qR_self _ _ _ _)
  rw [e]
  exact h3
set_option maxHeartbeats 4000000 in
set_option maxRecDepth 100000 in
theorem c0_Row_drop (l : Launch) (E : qE) (S : qS) (r g : Nat) (l9 : List Nat) (hL_r : r ∈ S.L) (hK_r : S.K r = 1) (hL_g : g ∈ S.L) (hK_g : S.K g = 0) (hc : q_ch (S.R 1) (S.R 2 r) l9) (hok : ∀ a ∈ l9, a ∈ S.L ∧ S.K a = 0) (post : qS → Prop) (hpost : ∀ S1, (q_fr S S1 q_c0 (fun j x => (j = 1 ∧ x ∈ l9) ∨ (j = 2 ∧ x = r)) q_c0 ∧ S1.L = S.L ∧ q_ch (S1.R 1) (S1.R 2 r) (l9.erase g)) → post S1) : q_Mv l yX1_drop cX1_drop 3 { frames := 0, cells := 0, slots := 0, locals := 0 } E [.ref r, .ref g] S (post) 0 0 := by
  refine q_ofW1 (by decide) (q_1c rfl (q_1c rfl q_1n)) (Nat.le_of_ble_eq_true rfl) (fun p e s m below meth c C hV hr hlk hnm ls hl => ?_)
  have hl : lv_has ls 3 [(0, va_rf (some r)), (1, va_rf (some g))] := hl
  have loop : ∀ (k : Nat) (pp : Option Nat) (rest : List Nat) (S' : qS) (H : Heap) (locs : List Loc) (ls : Array Slot), rest.length < k → q_V E s S' H locs → lv_has ls 3 [(2, va_rf (pp)), (0, va_rf (some r)), (1, va_rf (some g))] → q_ch (S'.R 1) pp rest → rest.head? ≠ some g → (∀ a ∈ rest, a ∈ S'.L ∧ S'.K a = 0) → (g ∈ S'.L ∧ S'.K g = 0) → (∀ S1, q_dr S' S1 g pp rest → post S1) → W p l e ({ frames := 0, cells := 0, slots := 0, locals := 0 } : Room) s m [.ref r, .ref g].toArray below meth c H locs (0) (0) (MQ below (va_Qv (post) (q_B E) E.A) [.ref r, .ref g].toArray s (0) (0) E.A) (F0 m 21 ls []) := by
    intro k
    induction k with
    | zero => intro pp rest S' H locs ls hk; exact absurd hk (Nat.not_lt_zero _)
    | succ k ih =>
      intro pp rest S' H locs ls hk hV hl hch hhd hok9 hg9 hpost9
      refine q_aload_n (r := pp) C dX1_drop_21 rfl (lv_at hl 0 rfl) ?_
      refine q_ifnull (r := pp) (tgt := 49) C dX1_drop_22 (by decide) (fun c22 => ?_) (fun x22 c22 => ?_)
      · subst c22
        refine q_vret C hV hr hlk (Nat.le_of_ble_eq_true rfl) (Nat.le_of_ble_eq_true rfl) dX1_drop_49 ?_
        cases rest with
        | nil => exact hpost9 _ ⟨q_fr_rf, rfl, rfl⟩
        | cons a t => exact nomatch hch.1
      · subst c22
        obtain ⟨t, rfl, hch2⟩ : ∃ t, rest = x22 :: t ∧ q_ch (S'.R 1) (S'.R 1 x22) t := by
          cases rest with
          | nil => exact nomatch (show some x22 = none from hch)
          | cons a t => cases hch.1; exact ⟨t, rfl, hch.2⟩
        obtain ⟨hL_x22, hK_x22⟩ := hok9 x22 List.mem_cons_self
        have hxt : x22 ∉ t := (List.nodup_cons.mp (q_ch_nodup hch)).1
        obtain ⟨hL_g, hK_g⟩ := hg9
        have hg9 : g ∈ S'.L ∧ S'.K g = 0 := ⟨hL_g, hK_g⟩
        refine q_aload_n (r := some x22) C dX1_drop_25 rfl (lv_at hl 0 rfl) ?_
        refine g_Piece_older C hV hL_x22 hK_x22 (Or.inr ⟨_, wd_132⟩) dX1_drop_26 ?_
        refine q_nr (fun r26 h26 => ?_)
        refine q_aload_n (r := some g) C dX1_drop_29 rfl (lv_at hl 2 rfl) ?_
        refine lv_acmp_ne (rx := r26) (ry := some g) (tgt := 41) C.1 C.2.1 dX1_drop_30 (by decide) (fun c30 => ?_) (fun c30 => ?_)
        · refine q_aload_n (r := some x22) C dX1_drop_41 rfl (lv_at hl 0 rfl) ?_
          refine g_Piece_older C hV hL_x22 hK_x22 (Or.inr ⟨_, wd_132⟩) dX1_drop_42 ?_
          refine q_nr (fun r42 h42 => ?_)
          refine q_astore_n (r := r42) (lv' := [(2, va_rf (r42)), (0, va_rf (some r)), (1, va_rf (some g))]) C dX1_drop_45 rfl hl (by decide) (q_k0 (q_kN 1 rfl (by decide) (by decide) (q_kC 2 rfl (by decide) (q_cat _) q_kz))) (fun ls hl => ?_)
          refine lv_goto (tgt := 21) C.1 C.2.1 dX1_drop_46 (by decide) ?_
          subst h42
          exact ih (S'.R 1 x22) t S' H locs ls (by simp at hk; omega) hV hl hch2 (fun hh => c30 (by rw [h26, q_ch_head hch2, hh])) (fun a ha => hok9 a (List.mem_cons_of_mem _ ha)) hg9 (fun S1 h1 => hpost9 S1 (q_dr_skip hL_x22 hxt (fun e => hhd (by rw [e]; rfl)) h1))
        · rw [c30] at h26
          obtain ⟨t2, rfl⟩ : ∃ t2, t = g :: t2 := by
            rw [← h26] at hch2
            cases t with
            | nil => exact nomatch (show some g = none from hch2)
            | cons a t2 => cases hch2.1; exact ⟨t2, rfl⟩
          have hgt : g ∉ t2 := (List.nodup_cons.mp (List.nodup_cons.mp (q_ch_nodup hch)).2).1
          refine q_aload_n (r := some x22) C dX1_drop_33 rfl (lv_at hl 0 rfl) ?_
          refine q_aload_n (r := some g) C dX1_drop_34 rfl (lv_at hl 2 rfl) ?_
          refine g_Piece_older C hV hL_g hK_g (Or.inr ⟨_, wd_132⟩) dX1_drop_35 ?_
          refine q_nr (fun r35 h35 => ?_)
          refine p_Piece_older (v := r35) C hV hL_x22 hK_x22 (Or.inr ⟨_, wd_132⟩) dX1_drop_38 (fun H locs hV => ?_)
          refine q_aload_n (r := some x22) C dX1_drop_41 rfl (lv_at hl 0 rfl) ?_
          refine g_Piece_older C hV hL_x22 hK_x22 (Or.inr ⟨_, wd_132⟩) dX1_drop_42 ?_
          refine q_nr (fun r42 h42 => ?_)
          refine q_astore_n (r := r42) (lv' := [(2, va_rf (r42)), (0, va_rf (some r)), (1, va_rf (some g))]) C dX1_drop_45 rfl hl (by decide) (q_k0 (q_kN 1 rfl (by decide) (by decide) (q_kC 2 rfl (by decide) (q_cat _) q_kz))) (fun ls hl => ?_)
          refine lv_goto (tgt := 21) C.1 C.2.1 dX1_drop_46 (by decide) ?_
          have e42 : r42 = S'.R 1 g := h42.trans ((qR_self _ _ _ _).trans h35)
          subst e42
          have hch3 : q_ch (S'.R 1) (S'.R 1 g) t2 := by rw [← h26] at hch2; exact hch2.2
          subst h35
          exact ih (S'.R 1 g) t2 (S'.sR 1 x22 (S'.R 1 g)) H locs ls (by simp at hk ⊢; omega) hV hl (q_ch_congr (fun a ha => qR_ne _ _ _ _ (fun e : a = x22 => hxt (by rw [← e]; exact List.mem_cons_of_mem _ ha)) 1) hch3) (fun hh => hgt (List.mem_of_mem_head? hh)) (fun a ha => hok9 a (List.mem_cons_of_mem _ (List.mem_cons_of_mem _ ha))) hg9 (fun S1 h1 => hpost9 S1 (q_dr_cut hL_x22 hxt hgt h1))
  refine q_aload_n (r := some r) C dX1_drop_0 rfl (lv_at hl 0 rfl) ?_
  refine g_Row_latest C hV hL_r hK_r (Or.inl wd_73) dX1_drop_1 ?_
  refine q_nr (fun r1 h1 => ?_)
  refine q_aload_n (r := some g) C dX1_drop_4 rfl (lv_at hl 1 rfl) ?_
  refine lv_acmp_ne (rx := r1) (ry := some g) (tgt := 16) C.1 C.2.1 dX1_drop_5 (by decide) (fun c5 => ?_) (fun c5 => ?_)
  · refine q_aload_n (r := some r) C dX1_drop_16 rfl (lv_at hl 0 rfl) ?_
    refine g_Row_latest C hV hL_r hK_r (Or.inl wd_73) dX1_drop_17 ?_
    refine q_nr (fun r17 h17 => ?_)
    refine q_astore_n (r := r17) (lv' := [(2, va_rf (r17)), (0, va_rf (some r)), (1, va_rf (some g))]) C dX1_drop_20 rfl hl (by decide) (q_k0 (q_kN 0 rfl (by decide) (by decide) (q_kC 1 rfl (by decide) (q_cat _) q_kz))) (fun ls hl => ?_)
    subst h17
    exact loop (l9.length + 1) (S.R 2 r) l9 S s.heap [] ls (Nat.lt_succ_self _) hV hl hc (fun hh => c5 (by rw [h1, q_ch_head hc, hh])) hok ⟨hL_g, hK_g⟩ (fun S1 h1 => hpost S1 ⟨q_fr_mo h1.1 (fun _ _ z => z) (fun j x z => Or.inl z) (fun _ _ z => z), h1.2.1, by rw [h1.1.2.2.1 r hL_r 2 (fun z => absurd z.1 (by decide))]; exact h1.2.2⟩)
  · refine q_aload_n (r := some r) C dX1_drop_8 rfl (lv_at hl 0 rfl) ?_
    refine q_aload_n (r := some g) C dX1_drop_9 rfl (lv_at hl 1 rfl) ?_
    refine g_Piece_older C hV hL_g hK_g (Or.inr ⟨_, wd_132⟩) dX1_drop_10 ?_
    refine q_nr (fun r10 h10 => ?_)
    refine p_Row_latest (v := r10) C hV hL_r hK_r (Or.inl wd_73) dX1_drop_13 (fun H locs hV => ?_)
    refine q_aload_n (r := some r) C dX1_drop_16 rfl (lv_at hl 0 rfl) ?_
    refine g_Row_latest C hV hL_r hK_r (Or.inl wd_73) dX1_drop_17 ?_
    refine q_nr (fun r17 h17 => ?_)
    refine q_astore_n (r := r17) (lv' := [(2, va_rf (r17)), (0, va_rf (some r)), (1, va_rf (some g))]) C dX1_drop_20 rfl hl (by decide) (q_k0 (q_kN 0 rfl (by decide) (by decide) (q_kC 1 rfl (by decide) (q_cat _) q_kz))) (fun ls hl => ?_)
    have e17 : r17 = S.R 1 g := h17.trans ((qR_self _ _ _ _).trans h10)
    subst e17
    subst h10
    cases l9 with
    | nil => exact absurd (h1.symm.trans c5) (by rw [show S.R 2 r = none from hc]; exact fun z => nomatch z)
    | cons a t9 =>
      have ea : a = g := Option.some.inj (hc.1.symm.trans (h1.symm.trans c5))
      subst ea
      have hnd := List.nodup_cons.mp (q_ch_nodup hc)
      exact loop (t9.length + 1) (S.R 1 a) t9 (S.sR 2 r (S.R 1 a)) H locs ls (Nat.lt_succ_self _) hV hl hc.2 (fun hh => hnd.1 (List.mem_of_mem_head? hh)) (fun b hb => hok b (List.mem_cons_of_mem _ hb)) ⟨hL_g, hK_g⟩ (fun S1 h1 => hpost S1 ⟨q_fr_tr (q_fr_sR (Or.inr ⟨rfl, rfl⟩)) (q_fr_mo h1.1 (fun _ _ z => z) (fun j x z => Or.inl ⟨z.1, List.mem_cons_of_mem _ z.2⟩) (fun _ _ z => z)), h1.2.1, by
        rw [List.erase_cons_head, h1.1.2.2.1 r hL_r 2 (fun z => absurd z.1 (by decide)), qR_self]
        have h3 := h1.2.2
        rw [List.erase_of_not_mem hnd.1] at h3
        exact h3⟩)
theorem c_Row_drop (l : Launch) (E : qE) (S : qS) (r g : Nat) (l9 : List Nat) (hL_r : r ∈ S.L) (hK_r : S.K r = 1) (hL_g : g ∈ S.L) (hK_g : S.K g = 0) (hc : q_ch (S.R 1) (S.R 2 r) l9) (hok : ∀ a ∈ l9, a ∈ S.L ∧ S.K a = 0) : q_Mv l yX1_drop cX1_drop 3 { frames := 0, cells := 0, slots := 0, locals := 0 } E [.ref r, .ref g] S (fun S1 => q_fr S S1 q_c0 (fun j x => (j = 1 ∧ x ∈ l9) ∨ (j = 2 ∧ x = r)) q_c0 ∧ S1.L = S.L ∧ q_ch (S1.R 1) (S1.R 2 r) (l9.erase g)) 0 0 := c0_Row_drop l E S r g l9 hL_r hK_r hL_g hK_g hc hok _ (fun _ h => h)

set_option maxHeartbeats 4000000 in
set_option maxRecDepth 100000 in
theorem c0_Row_kthLatest (l : Launch) (E : qE) (S : qS) (r : Nat) (k9 : Nat) (l9 : List Nat) (hL_r : r ∈ S.L) (hK_r : S.K r = 1) (hk9 : k9 < 2 ^ 31) (hc : q_ch (S.R 1) (S.R 2 r) l9) (hok : ∀ a ∈ l9, a ∈ S.L ∧ S.K a = 0) (post : Option Nat → qS → Prop) (hpost : ∀ r1 S1, (S1 = S ∧ r1 = l9[k9]?) → post r1 S1) : q_Mq l yX1_kthLatest cX1_kthLatest 4 (.object "ChunkShelf$Piece") { frames := 0, cells := 0, slots := 0, locals := 0 } E [.ref r, .int (nI k9)] S (post) 0 0 := by
  refine q_ofW1 (by decide) (q_1c rfl (q_1c rfl q_1n)) (Nat.le_of_ble_eq_true rfl) (fun p e s m below meth c C hV hr hlk hnm ls hl => ?_)
  have hl : lv_has ls 4 [(0, va_rf (some r)), (1, .int (nI k9))] := hl
  have loop : ∀ (k : Nat) (pp : Option Nat) (i : Int32) (rest : List Nat) (j : Nat) (ls : Array Slot), rest.length < k → lv_has ls 4 [(3, .int (i)), (2, va_rf (pp)), (0, va_rf (some r)), (1, .int (nI k9))] → q_ch (S.R 1) pp rest → i = nI j → j ≤ k9 → l9.drop j = rest → W p l e ({ frames := 0, cells := 0, slots := 0, locals := 0 } : Room) s m [.ref r, .int (nI k9)].toArray below meth c s.heap [] (0) (0) (MQ below (va_Qq (post) (q_B E) E.A) [.ref r, .int (nI k9)].toArray s (0) (0) E.A) (F0 m 7 ls []) := by
    intro k
    induction k with
    | zero => intro pp i rest j ls hk; exact absurd hk (Nat.not_lt_zero _)
    | succ k ih =>
      intro pp i rest j ls hk hl hch hi hj hd
      refine q_aload_n (r := pp) C dX1_kthLatest_7 rfl (lv_at hl 1 rfl) ?_
      refine q_ifnull (r := pp) (tgt := 27) C dX1_kthLatest_8 (by decide) (fun c8 => ?_) (fun x8 c8 => ?_)
      · subst c8
        refine q_aload_n (r := none) C dX1_kthLatest_27 rfl (lv_at hl 1 rfl) ?_
        refine q_aret (r := none) C hV hr hlk (Nat.le_of_ble_eq_true rfl) (Nat.le_of_ble_eq_true rfl) dX1_kthLatest_28 ?_
        have hr0 : rest = [] := by cases rest with | nil => rfl | cons a t => exact nomatch hch.1
        refine hpost _ _ ⟨rfl, ?_⟩
        have h9 : l9.length ≤ j := by rw [hr0] at hd; exact List.drop_eq_nil_iff.mp hd
        rw [List.getElem?_eq_none (by omega)]
      · subst c8
        obtain ⟨t, hrest, hch2⟩ : ∃ t, rest = x8 :: t ∧ q_ch (S.R 1) (S.R 1 x8) t := by
          cases rest with
          | nil => exact nomatch (show some x8 = none from hch)
          | cons a t => cases hch.1; exact ⟨t, rfl, hch.2⟩
        have hx8m : x8 ∈ l9 := List.mem_of_mem_drop (i := j) (by rw [hd, hrest]; exact List.mem_cons_self)
        obtain ⟨hL_x8, hK_x8⟩ := hok x8 hx8m
        refine lv_iload_n C.1 C.2.1 dX1_kthLatest_11 rfl (lv_at hl 0 rfl) ?_
        refine lv_iload_n C.1 C.2.1 dX1_kthLatest_12 rfl (lv_at hl 3 rfl) ?_
        refine lv_icmp_ge (tgt := 27) C.1 C.2.1 dX1_kthLatest_13 (by decide) (fun c13 => ?_) (fun c13 => ?_)
        · refine q_aload_n (r := some x8) C dX1_kthLatest_27 rfl (lv_at hl 1 rfl) ?_
          refine q_aret (r := some x8) C hV hr hlk (Nat.le_of_ble_eq_true rfl) (Nat.le_of_ble_eq_true rfl) dX1_kthLatest_28 ?_
          refine hpost _ _ ⟨rfl, ?_⟩
          have hjk : j = k9 := by
            rcases Nat.lt_or_ge j k9 with h | h
            · exact absurd (by rw [hi] at c13; exact c13) (nI_ge h (by omega))
            · omega
          subst hjk
          have h9 : (l9.drop j)[0]? = some x8 := by rw [hd, hrest]; rfl
          rw [List.getElem?_drop] at h9
          simpa using h9.symm
        · refine q_aload_n (r := some x8) C dX1_kthLatest_16 rfl (lv_at hl 1 rfl) ?_
          refine g_Piece_older C hV hL_x8 hK_x8 (Or.inr ⟨_, wd_132⟩) dX1_kthLatest_17 ?_
          refine q_nr (fun r17 h17 => ?_)
          refine q_astore_n (r := r17) (lv' := [(2, va_rf (r17)), (3, .int (i)), (0, va_rf (some r)), (1, .int (nI k9))]) C dX1_kthLatest_20 rfl hl (by decide) (q_k0 (q_kN 0 rfl (by decide) (by decide) (q_kN 2 rfl (by decide) (by decide) (q_kC 3 rfl (by decide) rfl q_kz)))) (fun ls hl => ?_)
          obtain ⟨i21, e21⟩ : ∃ y : Int32, y = i + 1 := ⟨_, rfl⟩
          refine q_iinc (v := i21) (k := 1) (lv' := [(3, .int (i21)), (2, va_rf (r17)), (0, va_rf (some r)), (1, .int (nI k9))]) C dX1_kthLatest_21 hl rfl (by rw [e21]; rfl) (by decide) (q_k0 (q_kC 0 rfl (by decide) (q_cat _) (q_kN 2 rfl (by decide) (by decide) (q_kN 3 rfl (by decide) (by decide) q_kz)))) (fun ls hl => ?_)
          refine lv_goto (tgt := 7) C.1 C.2.1 dX1_kthLatest_24 (by decide) ?_
          subst h17
          have hjk : j < k9 := by
            rcases Nat.lt_or_ge j k9 with h | h
            · exact h
            · exact absurd (by rw [hi]; exact nI_le h (by omega)) c13
          have h9 : (l9.drop j).drop 1 = t := by rw [hd, hrest]; rfl
          rw [List.drop_drop] at h9
          exact ih (S.R 1 x8) i21 t (j + 1) ls (by rw [hrest] at hk; simp at hk; omega) hl hch2 (by rw [e21, hi]; exact nI_1 j) hjk h9
  refine q_aload_n (r := some r) C dX1_kthLatest_0 rfl (lv_at hl 0 rfl) ?_
  refine g_Row_latest C hV hL_r hK_r (Or.inl wd_73) dX1_kthLatest_1 ?_
  refine q_nr (fun r1 h1 => ?_)
  refine q_astore_n (r := r1) (lv' := [(2, va_rf (r1)), (0, va_rf (some r)), (1, .int (nI k9))]) C dX1_kthLatest_4 rfl hl (by decide) (q_k0 (q_kN 0 rfl (by decide) (by decide) (q_kC 1 rfl (by decide) rfl q_kz))) (fun ls hl => ?_)
  refine lv_iconst (v := 0) C.1 C.2.1 dX1_kthLatest_5 (by decide) ?_
  refine q_istore_n (x := 0) (lv' := [(3, .int (0)), (2, va_rf (r1)), (0, va_rf (some r)), (1, .int (nI k9))]) C dX1_kthLatest_6 rfl hl (by decide) (q_k0 (q_kC 0 rfl (by decide) (q_cat _) (q_kN 1 rfl (by decide) (by decide) (q_kN 2 rfl (by decide) (by decide) q_kz)))) (fun ls hl => ?_)
  exact loop (l9.length + 1) r1 0 l9 0 ls (Nat.lt_succ_self _) hl (by rw [h1]; exact hc) nI_0.symm (Nat.zero_le _) rfl
theorem c_Row_kthLatest (l : Launch) (E : qE) (S : qS) (r : Nat) (k9 : Nat) (l9 : List Nat) (hL_r : r ∈ S.L) (hK_r : S.K r = 1) (hk9 : k9 < 2 ^ 31) (hc : q_ch (S.R 1) (S.R 2 r) l9) (hok : ∀ a ∈ l9, a ∈ S.L ∧ S.K a = 0) : q_Mq l yX1_kthLatest cX1_kthLatest 4 (.object "ChunkShelf$Piece") { frames := 0, cells := 0, slots := 0, locals := 0 } E [.ref r, .int (nI k9)] S (fun r1 S1 => S1 = S ∧ r1 = l9[k9]?) 0 0 := c0_Row_kthLatest l E S r k9 l9 hL_r hK_r hk9 hc hok _ (fun _ _ h => h)
end
section
/-! THE SHELVES: rows z: the free pieces of z cells, the latest first -/
def q_row (S : qS) (rows : Nat → List Nat) (z r : Nat) : Prop := r ∈ S.L ∧ S.K r = 1 ∧ S.I 4 r = nI z ∧ z < 2 ^ 31 ∧ q_ch (S.R 1) (S.R 2 r) (rows z)
def q_sh (S : qS) (h ar t : Nat) (ns : List Nat) (rows : Nat → List Nat) : Prop :=
  (h ∈ S.L ∧ S.K h = 2 ∧ S.R 5 h = some ar ∧ S.R 6 h = some t) ∧ (ar ∈ S.L ∧ S.K ar = 7 ∧ S.N ar = 61) ∧ (∀ i, i < 61 → ∃ r, S.B ar i = some r ∧ q_row S rows (i + 3) r) ∧ q_tree S t ns ∧
  (∀ r ∈ ns, ∃ z, 64 ≤ z ∧ q_row S rows z r) ∧ (∀ z, 64 ≤ z → rows z ≠ [] → ∃ r ∈ ns, q_row S rows z r) ∧ (∀ z, ∀ p ∈ rows z, p ∈ S.L ∧ S.K p = 0 ∧ S.I 1 p = nI z ∧ z < 2 ^ 31)
theorem q_so_inj {z : Nat → Int} : ∀ {ns : List Nat} {a b : Nat}, q_so z ns → a ∈ ns → b ∈ ns → z a = z b → a = b := by
  intro ns
  induction ns with
  | nil => intro a b _ h; cases h
  | cons c t ih =>
    intro a b h ha hb e
    have h1 := List.pairwise_cons.mp h
    rcases List.mem_cons.mp ha with ea | ha2
    · rcases List.mem_cons.mp hb with eb | hb2
      · rw [ea, eb]
      · have := h1.1 b hb2; rw [ea] at e; omega
    · rcases List.mem_cons.mp hb with eb | hb2
      · have := h1.1 a ha2; rw [eb] at e; omega
      · exact ih h1.2 ha2 hb2 e
theorem q_row_one {S : qS} {rows rows' : Nat → List Nat} {z z' r : Nat} (h : q_row S rows z r) (h' : q_row S rows' z' r) : z = z' := (nI_eq h.2.2.2.1 h'.2.2.2.1).mp (h.2.2.1.symm.trans h'.2.2.1)
theorem q_row_z {S : qS} {rows : Nat → List Nat} {z r : Nat} (h : q_row S rows z r) : q_z S r = z := by
  show (S.I 4 r).toInt = _
  rw [h.2.2.1]
  exact nI_toInt h.2.2.2.1
theorem q_tree_fr {S S' : qS} {t : Nat} {ns : List Nat} {cI cR cJ : Nat → Nat → Prop} (h : q_tree S t ns) (hf : q_fr S S' cI cR cJ) (hI : ∀ a, ¬ cI 4 a) (hR : ∀ a, ¬ cR 3 a ∧ ¬ cR 4 a ∧ ¬ cR 7 a) : q_tree S' t ns := by
  obtain ⟨h1, h2, ⟨k, h3⟩, h4, h5⟩ := h
  refine ⟨(hf.1 t h1).1, (hf.1 t h1).2.1.trans h2, ⟨k, ?_⟩, fun a ha => ⟨(hf.1 a (h4 a ha).1).1, (hf.1 a (h4 a ha).1).2.1.trans (h4 a ha).2⟩, ?_⟩
  · rw [hf.2.2.1 t h1 7 (hR t).2.2]
    exact q_bt_congr (fun a ha => ⟨hf.2.2.1 a (h4 a ha).1 3 (hR a).1, hf.2.2.1 a (h4 a ha).1 4 (hR a).2.1⟩) h3
  · refine List.Pairwise.imp_of_mem ?_ h5
    intro a b ha hb hab
    show (S'.I 4 a).toInt < (S'.I 4 b).toInt
    rw [hf.2.1 a (h4 a ha).1 4 (hI a), hf.2.1 b (h4 b hb).1 4 (hI b)]
    exact hab
theorem q_row_fr {S S' : qS} {rows rows' : Nat → List Nat} {z r : Nat} {cI cR cJ : Nat → Nat → Prop} (h : q_row S rows z r) (hf : q_fr S S' cI cR cJ) (hI : ¬ cI 4 r) (hR2 : ¬ cR 2 r) (hR1 : ∀ p ∈ rows z, p ∈ S.L ∧ ¬ cR 1 p) (hrw : rows' z = rows z) : q_row S' rows' z r := by
  obtain ⟨h1, h2, h3, h4, h5⟩ := h
  refine ⟨(hf.1 r h1).1, (hf.1 r h1).2.1.trans h2, (hf.2.1 r h1 4 hI).trans h3, h4, ?_⟩
  rw [hrw, hf.2.2.1 r h1 2 hR2]
  exact q_ch_congr (fun p hp => hf.2.2.1 p (hR1 p hp).1 1 (hR1 p hp).2) h5
/-- nothing of the shelves was touched -/
theorem q_sh_fr {S S' : qS} {h ar t : Nat} {ns : List Nat} {rows : Nat → List Nat} {cI cR cJ : Nat → Nat → Prop} (hs : q_sh S h ar t ns rows) (hf : q_fr S S' cI cR cJ) (hI4 : ∀ a, ¬ cI 4 a) (hI1 : ∀ z, ∀ p ∈ rows z, ¬ cI 1 p)
    (hR : ∀ a, ¬ cR 5 a ∧ ¬ cR 6 a ∧ ¬ cR 3 a ∧ ¬ cR 4 a ∧ ¬ cR 7 a ∧ ¬ cR 2 a) (hR1 : ∀ z, ∀ p ∈ rows z, ¬ cR 1 p) : q_sh S' h ar t ns rows := by
  obtain ⟨⟨a1, a2, a3, a4⟩, ⟨b1, b2, b3⟩, c1, d1, e1, f1, g1⟩ := hs
  have rw1 : ∀ z r, q_row S rows z r → q_row S' rows z r := fun z r hr => q_row_fr hr hf (hI4 r) (hR r).2.2.2.2.2 (fun p hp => ⟨(g1 z p hp).1, hR1 z p hp⟩) rfl
  refine ⟨⟨(hf.1 h a1).1, (hf.1 h a1).2.1.trans a2, (hf.2.2.1 h a1 5 (hR h).1).trans a3, (hf.2.2.1 h a1 6 (hR h).2.1).trans a4⟩, ⟨(hf.1 ar b1).1, (hf.1 ar b1).2.1.trans b2, (hf.1 ar b1).2.2.1.trans b3⟩, fun i hi => ?_, q_tree_fr d1 hf hI4 (fun a => ⟨(hR a).2.2.1, (hR a).2.2.2.1, (hR a).2.2.2.2.1⟩), fun r hr => ?_, fun z hz hne => ?_, fun z p hp => ?_⟩
  · obtain ⟨r, h1, h2⟩ := c1 i hi
    exact ⟨r, by rw [(hf.1 ar b1).2.2.2.2]; exact h1, rw1 _ r h2⟩
  · obtain ⟨z, h1, h2⟩ := e1 r hr
    exact ⟨z, h1, rw1 z r h2⟩
  · obtain ⟨r, h1, h2⟩ := f1 z hz hne
    exact ⟨r, h1, rw1 z r h2⟩
  · obtain ⟨h1, h2, h3, h4⟩ := g1 z p hp
    exact ⟨(hf.1 p h1).1, (hf.1 p h1).2.1.trans h2, (hf.2.1 p h1 1 (hI1 z p hp)).trans h3, h4⟩
/-- one row was changed -/
theorem q_sh_up {S S' : qS} {h ar t : Nat} {ns : List Nat} {rows : Nat → List Nat} {cI cR cJ : Nat → Nat → Prop} (hs : q_sh S h ar t ns rows) (hf : q_fr S S' cI cR cJ) {z0 r0 : Nat} {new : List Nat} (hr0 : q_row S rows z0 r0) (hI4 : ∀ a, ¬ cI 4 a) (hI1 : ∀ z, z ≠ z0 → ∀ p ∈ rows z, ¬ cI 1 p)
    (hR : ∀ a, ¬ cR 5 a ∧ ¬ cR 6 a ∧ ¬ cR 3 a ∧ ¬ cR 4 a ∧ ¬ cR 7 a) (hR2 : ∀ a, cR 2 a → a = r0) (hR1 : ∀ z, z ≠ z0 → ∀ p ∈ rows z, ¬ cR 1 p) (hch : q_ch (S'.R 1) (S'.R 2 r0) new) (hnew : ∀ p ∈ new, p ∈ S'.L ∧ S'.K p = 0 ∧ S'.I 1 p = nI z0) (hlo : z0 < 64 → S.B ar (z0 - 3) = some r0) (hhi : 64 ≤ z0 → r0 ∈ ns) : q_sh S' h ar t ns (va_up rows z0 new) := by
  obtain ⟨⟨a1, a2, a3, a4⟩, ⟨b1, b2, b3⟩, c1, d1, e1, f1, g1⟩ := hs
  have hr0' : q_row S' (va_up rows z0 new) z0 r0 := ⟨(hf.1 r0 hr0.1).1, (hf.1 r0 hr0.1).2.1.trans hr0.2.1, (hf.2.1 r0 hr0.1 4 (hI4 r0)).trans hr0.2.2.1, hr0.2.2.2.1, by rw [va_up_self]; exact hch⟩
  have rw1 : ∀ z r, z ≠ z0 → q_row S rows z r → q_row S' (va_up rows z0 new) z r := fun z r hz hr => q_row_fr hr hf (hI4 r) (fun hc => hz (by have e := hR2 r hc; subst e; exact q_row_one hr hr0)) (fun p hp => ⟨(g1 z p hp).1, hR1 z hz p hp⟩) (va_up_ne _ _ hz)
  refine ⟨⟨(hf.1 h a1).1, (hf.1 h a1).2.1.trans a2, (hf.2.2.1 h a1 5 (hR h).1).trans a3, (hf.2.2.1 h a1 6 (hR h).2.1).trans a4⟩, ⟨(hf.1 ar b1).1, (hf.1 ar b1).2.1.trans b2, (hf.1 ar b1).2.2.1.trans b3⟩, fun i hi => ?_, q_tree_fr d1 hf hI4 (fun a => ⟨(hR a).2.2.1, (hR a).2.2.2.1, (hR a).2.2.2.2⟩), fun r hr => ?_, fun z hz hne => ?_, fun z p hp => ?_⟩
  · obtain ⟨r, h1, h2⟩ := c1 i hi
    refine ⟨r, by rw [(hf.1 ar b1).2.2.2.2]; exact h1, ?_⟩
    by_cases hz : i + 3 = z0
    · have hrr : r = r0 := by
        have h3 := hlo (by omega)
        rw [← hz, Nat.add_sub_cancel] at h3
        exact Option.some.inj (h1.symm.trans h3)
      rw [hz, hrr]; exact hr0'
    · exact rw1 _ r hz h2
  · obtain ⟨z, h1, h2⟩ := e1 r hr
    by_cases hz : z = z0
    · have hrr : r = r0 := q_so_inj d1.2.2.2.2 hr (hhi (hz ▸ h1)) (by rw [q_row_z h2, q_row_z hr0, hz])
      exact ⟨z0, hz ▸ h1, by rw [hrr]; exact hr0'⟩
    · exact ⟨z, h1, rw1 z r hz h2⟩
  · by_cases hz0 : z = z0
    · subst hz0
      rw [va_up_self] at hne
      exact ⟨r0, hhi hz, hr0'⟩
    · rw [va_up_ne _ _ hz0] at hne
      obtain ⟨r, h1, h2⟩ := f1 z hz hne
      exact ⟨r, h1, rw1 z r hz0 h2⟩
  · by_cases hz0 : z = z0
    · subst hz0
      rw [va_up_self] at hp
      obtain ⟨h1, h2, h3⟩ := hnew p hp
      exact ⟨h1, h2, h3, hr0.2.2.2.1⟩
    · rw [va_up_ne _ _ hz0] at hp
      obtain ⟨h1, h2, h3, h4⟩ := g1 z p hp
      exact ⟨(hf.1 p h1).1, (hf.1 p h1).2.1.trans h2, (hf.2.1 p h1 1 (hI1 z hz0 p hp)).trans h3, h4⟩
/-- the tree was changed -/
theorem q_sh_tree {S S' : qS} {h ar t : Nat} {ns ns' : List Nat} {rows : Nat → List Nat} (hs : q_sh S h ar t ns rows) (hf : q_fr S S' q_c0 q_cT q_c0) (ht : q_tree S' t ns') (h1 : ∀ r ∈ ns', ∃ z, 64 ≤ z ∧ q_row S' rows z r) (h2 : ∀ z, 64 ≤ z → rows z ≠ [] → ∃ r ∈ ns', q_row S' rows z r) : q_sh S' h ar t ns' rows := by
  obtain ⟨⟨a1, a2, a3, a4⟩, ⟨b1, b2, b3⟩, c1, d1, e1, f1, g1⟩ := hs
  have nT : ∀ j a, j ≠ 3 → j ≠ 4 → j ≠ 7 → ¬ q_cT j a := fun j a h3 h4 h7 hc => by rcases hc with h | h | h; exact h3 h; exact h4 h; exact h7 h
  refine ⟨⟨(hf.1 h a1).1, (hf.1 h a1).2.1.trans a2, (hf.2.2.1 h a1 5 (nT 5 h (by decide) (by decide) (by decide))).trans a3, (hf.2.2.1 h a1 6 (nT 6 h (by decide) (by decide) (by decide))).trans a4⟩, ⟨(hf.1 ar b1).1, (hf.1 ar b1).2.1.trans b2, (hf.1 ar b1).2.2.1.trans b3⟩, fun i hi => ?_, ht, h1, h2, fun z p hp => ?_⟩
  · obtain ⟨r, g2, g3⟩ := c1 i hi
    exact ⟨r, by rw [(hf.1 ar b1).2.2.2.2]; exact g2, q_row_fr g3 hf (fun z => z) (nT 2 r (by decide) (by decide) (by decide)) (fun p hp => ⟨(g1 _ p hp).1, nT 1 p (by decide) (by decide) (by decide)⟩) rfl⟩
  · obtain ⟨g2, g3, g4, g5⟩ := g1 z p hp
    exact ⟨(hf.1 p g2).1, (hf.1 p g2).2.1.trans g3, (hf.2.1 p g2 1 (fun z => z)).trans g4, g5⟩
end
section
/-- the row of a size, or that it has none -/
def q_rowAt (S : qS) (ar : Nat) (ns : List Nat) (rows : Nat → List Nat) (n : Int) (r : Option Nat) : Prop :=
  (r = none ∧ (n < 3 ∨ rows n.toNat = [])) ∨ ∃ a, r = some a ∧ 3 ≤ n ∧ q_row S rows n.toNat a ∧ (n < 64 → S.B ar (n.toNat - 3) = some a) ∧ (64 ≤ n → a ∈ ns)
theorem q_i3 : (3 : Int32).toInt = 3 := by decide
theorem q_i64 : (64 : Int32).toInt = 64 := by decide
theorem q_i0 : (0 : Int32).toInt = 0 := by decide
theorem q_nat {x : Int32} (h : 0 ≤ x.toInt) : x = nI x.toInt.toNat ∧ x.toInt.toNat < 2 ^ 31 := by
  have hb : x.toInt < 2 ^ 31 := Int32.toInt_lt x
  have h2 : x.toInt.toNat < 2 ^ 31 := by omega
  refine ⟨q_i_eq.mpr ?_, h2⟩
  rw [nI_toInt h2]
  omega
theorem q_sub3 {x : Int32} (h : 3 ≤ x.toInt) : x - 3 = nI (x.toInt.toNat - 3) := by
  obtain ⟨e, hb⟩ := q_nat (x := x) (by omega)
  have h3 : (3 : Int32) = nI 3 := by decide
  rw [h3]
  conv => lhs; rw [e]
  exact pk_sub (by omega)
set_option maxHeartbeats 4000000 in
set_option maxRecDepth 100000 in
theorem c0_Shelves_rowOf (l : Launch) (E : qE) (S : qS) (h ar t : Nat) (ns : List Nat) (rows : Nat → List Nat) (hs : q_sh S h ar t ns rows) (n : Int32) (post : Option Nat → qS → Prop) (hpost : ∀ r S1, (S1 = S ∧ q_rowAt S ar ns rows n.toInt r) → post r S1) : q_Mq l yX2_rowOf cX2_rowOf 2 (.object "ChunkShelf$Row") { frames := 1, cells := 0, slots := 0, locals := 22 } E [.ref h, .int n] S (post) 0 0 := by
  refine q_ofW1 (by decide) (q_1c rfl (q_1c rfl q_1n)) (Nat.le_of_ble_eq_true rfl) (fun p e s m below meth c C hV hr hlk hnm ls hl => ?_)
  have hl : lv_has ls 2 [(0, va_rf (some h)), (1, .int (n))] := hl
  have hs0 := hs
  obtain ⟨⟨hL_h, hK_h, hsm, hgr⟩, ⟨hL_ar, hK_ar, hNar⟩, hsmall, htree, hgreat, hgreat2, hpcs⟩ := hs
  have hL_t := htree.1
  have hK_t := htree.2.1
  have hN_ar : S.N ar < 2 ^ 31 := by rw [hNar]; decide
  refine lv_iload_n C.1 C.2.1 dX2_rowOf_0 rfl (lv_at hl 1 rfl) ?_
  refine lv_iconst (v := 3) C.1 C.2.1 dX2_rowOf_1 (by decide) ?_
  refine lv_icmp_ge (tgt := 7) C.1 C.2.1 dX2_rowOf_2 (by decide) (fun c2 => ?_) (fun c2 => ?_)
  · refine lv_iload_n C.1 C.2.1 dX2_rowOf_7 rfl (lv_at hl 1 rfl) ?_
    refine lv_bipush (v := 64) C.1 C.2.1 dX2_rowOf_8 (by decide) ?_
    refine lv_icmp_ge (tgt := 24) C.1 C.2.1 dX2_rowOf_10 (by decide) (fun c10 => ?_) (fun c10 => ?_)
    · refine q_aload_n (r := some h) C dX2_rowOf_24 rfl (lv_at hl 0 rfl) ?_
      refine g_Shelves_great C hV hL_h hK_h (Or.inl wd_98) dX2_rowOf_25 ?_
      refine q_tr (v' := some t) (hgr) ?_
      refine lv_iload_n C.1 C.2.1 dX2_rowOf_28 rfl (lv_at hl 1 rfl) ?_
      refine q_cq hV (q_rN (b := t) (As := [.int (n)]) (rest := []) C hV (c_Tree_rowOf l E S t n ns htree) wd_162 wd_206 wd_161 wd_4 wd_40 ok_X3_rowOf ⟨rfl, rfl, Nat.le_of_ble_eq_true rfl, Nat.le_of_ble_eq_true rfl⟩ (q_rc3 hV hL_t hK_t) rfl hl.1 rfl (q_sm q_1n (Nat.le_of_ble_eq_true rfl)) dX2_rowOf_29 ⟨Nat.le_of_ble_eq_true rfl, Nat.le_of_ble_eq_true rfl⟩) (fun r29 S29 H locs hp29 hV => ?_)
      obtain ⟨eS29, hp29⟩ := hp29
      rw [eS29] at hV
      refine q_aret (r := r29) C hV hr hlk (Nat.le_of_ble_eq_true rfl) (Nat.le_of_ble_eq_true rfl) dX2_rowOf_32 ?_
      have h3 := q_i_le.mp c2
      rw [q_i3] at h3
      have h4 := q_i_le.mp c10
      rw [q_i64] at h4
      refine hpost _ _ ⟨rfl, ?_⟩
      cases hr29 : r29 with
      | none =>
        refine Or.inl ⟨rfl, Or.inr ?_⟩
        rw [hr29] at hp29
        rcases Classical.em (rows n.toInt.toNat = []) with h | h
        · exact h
        · exfalso
          obtain ⟨r, h5, h6⟩ := hgreat2 n.toInt.toNat (by omega) h
          have h7 := List.find?_eq_none.mp hp29.symm r h5
          have h8 := q_row_z h6
          simp at h7
          omega
      | some a =>
        rw [hr29] at hp29
        have h5 := List.mem_of_find?_eq_some hp29.symm
        have h6 := List.find?_some hp29.symm
        simp at h6
        obtain ⟨z, h7, h8⟩ := hgreat a h5
        have h9 := q_row_z h8
        have ez : z = n.toInt.toNat := by omega
        subst ez
        exact Or.inr ⟨a, rfl, h3, h8, fun h => absurd h (by omega), fun _ => h5⟩
    · have h3 := q_i_le.mp c2
      rw [q_i3] at h3
      have h4 := mt q_i_le.mpr c10
      rw [q_i64] at h4
      obtain ⟨rw_, hrw0, hrow⟩ := hsmall (n.toInt.toNat - 3) (by omega)
      rw [show n.toInt.toNat - 3 + 3 = n.toInt.toNat by omega] at hrow
      have hrw : S.B ar (n.toInt.toNat - 3) = some rw_ := hrw0
      refine q_aload_n (r := some h) C dX2_rowOf_13 rfl (lv_at hl 0 rfl) ?_
      refine g_Shelves_small C hV hL_h hK_h (Or.inl wd_97) dX2_rowOf_14 ?_
      refine q_tr (v' := some ar) (hsm) ?_
      refine lv_iload_n C.1 C.2.1 dX2_rowOf_17 rfl (lv_at hl 1 rfl) ?_
      refine lv_iconst (v := 3) C.1 C.2.1 dX2_rowOf_18 (by decide) ?_
      refine lv_isub C.1 C.2.1 dX2_rowOf_19 ?_
      refine q_aald (j := n.toInt.toNat - 3) C hV hL_ar hK_ar (q_sub3 h3) (by rw [hNar]; omega) (hN_ar) dX2_rowOf_20 ?_
      refine q_nr (fun r20 h20 => ?_)
      refine lv_goto (tgt := 32) C.1 C.2.1 dX2_rowOf_21 (by decide) ?_
      refine q_aret (r := r20) C hV hr hlk (Nat.le_of_ble_eq_true rfl) (Nat.le_of_ble_eq_true rfl) dX2_rowOf_32 ?_
      subst h20
      refine hpost _ _ ⟨rfl, Or.inr ⟨rw_, hrw, h3, hrow, fun _ => hrw0, fun h => absurd h (by omega)⟩⟩
  · refine lv_null C.1 C.2.1 dX2_rowOf_5 ?_
    refine q_aret (r := none) C hV hr hlk (Nat.le_of_ble_eq_true rfl) (Nat.le_of_ble_eq_true rfl) dX2_rowOf_6 ?_
    have h2 := mt q_i_le.mpr c2
    rw [q_i3] at h2
    exact hpost _ _ ⟨rfl, Or.inl ⟨rfl, Or.inl (by omega)⟩⟩
theorem c_Shelves_rowOf (l : Launch) (E : qE) (S : qS) (h ar t : Nat) (ns : List Nat) (rows : Nat → List Nat) (hs : q_sh S h ar t ns rows) (n : Int32) : q_Mq l yX2_rowOf cX2_rowOf 2 (.object "ChunkShelf$Row") { frames := 1, cells := 0, slots := 0, locals := 22 } E [.ref h, .int n] S (fun r S1 => S1 = S ∧ q_rowAt S ar ns rows n.toInt r) 0 0 := c0_Shelves_rowOf l E S h ar t ns rows hs n _ (fun _ _ h => h)

set_option maxHeartbeats 4000000 in
set_option maxRecDepth 100000 in
theorem c0_Shelves_smallestFrom (l : Launch) (E : qE) (S : qS) (h ar t : Nat) (ns : List Nat) (rows : Nat → List Nat) (hs : q_sh S h ar t ns rows) (z0 : Nat) (hz0 : 3 ≤ z0) (hz1 : z0 < 2 ^ 30) (hne : ∀ r ∈ ns, rows (q_z S r).toNat ≠ []) (post : Option Nat → qS → Prop) (hpost : ∀ r S1, (S1 = S ∧ ((r = none ∧ ∀ y, z0 ≤ y → rows y = []) ∨ ∃ z, z0 ≤ z ∧ ∃ a u, rows z = a :: u ∧ r = some a ∧ ∀ y, z0 ≤ y → y < z → rows y = [])) → post r S1) : q_Mq l yX2_smallestFrom cX2_smallestFrom 4 (.object "ChunkShelf$Piece") { frames := 1, cells := 0, slots := 0, locals := 23 } E [.ref h, .int (nI z0)] S (post) 0 0 := by
  refine q_ofW1 (by decide) (q_1c rfl (q_1c rfl q_1n)) (Nat.le_of_ble_eq_true rfl) (fun p e s m below meth c C hV hr hlk hnm ls hl => ?_)
  have hl : lv_has ls 4 [(0, va_rf (some h)), (1, .int (nI z0))] := hl
  have hs0 := hs
  obtain ⟨⟨hL_h, hK_h, hsm, hgr⟩, ⟨hL_ar, hK_ar, hNar⟩, hsmall, htree, hgreat, hgreat2, hpcs⟩ := hs
  have hL_t := htree.1
  have hK_t := htree.2.1
  have hN_ar : S.N ar < 2 ^ 31 := by rw [hNar]; decide
  have loop : ∀ (k : Nat) (i : Int32) (z : Nat) (ls : Array Slot), 64 + 1 - z < k → lv_has ls 4 [(2, .int (i)), (0, va_rf (some h)), (1, .int (nI z0))] → i = nI z → z0 ≤ z → z < 2 ^ 30 → (∀ y, z0 ≤ y → y < z → rows y = []) → W p l e ({ frames := 1, cells := 0, slots := 0, locals := 23 } : Room) s m [.ref h, .int (nI z0)].toArray below meth c s.heap [] (0) (0) (MQ below (va_Qq (post) (q_B E) E.A) [.ref h, .int (nI z0)].toArray s (0) (0) E.A) (F0 m 6 ls []) := by
    intro k
    induction k with
    | zero => intro i z ls hk; exact absurd hk (Nat.not_lt_zero _)
    | succ k ih =>
      intro i z ls hk hl hi hz hzb hem
      refine lv_iload_n C.1 C.2.1 dX2_smallestFrom_6 rfl (lv_at hl 0 rfl) ?_
      refine lv_bipush (v := 64) C.1 C.2.1 dX2_smallestFrom_7 (by decide) ?_
      refine lv_icmp_ge (tgt := 39) C.1 C.2.1 dX2_smallestFrom_9 (by decide) (fun c9 => ?_) (fun c9 => ?_)
      · have h3 : 64 ≤ z := by
          rcases Nat.lt_or_ge z 64 with h | h
          · exfalso
            rw [hi] at c9
            exact nI_ge (b := 64) h (by omega) c9
          · exact h
        refine q_aload_n (r := some h) C dX2_smallestFrom_39 rfl (lv_at hl 1 rfl) ?_
        refine g_Shelves_great C hV hL_h hK_h (Or.inl wd_98) dX2_smallestFrom_40 ?_
        refine q_tr (v' := some t) (hgr) ?_
        refine lv_iload_n C.1 C.2.1 dX2_smallestFrom_43 rfl (lv_at hl 2 rfl) ?_
        refine q_cq hV (q_rN (b := t) (As := [.int (nI z0)]) (rest := []) C hV (c_Tree_leastFrom l E S t (nI z0) ns htree) wd_255 wd_252 wd_254 wd_17 wd_40 ok_X3_leastFrom ⟨rfl, rfl, Nat.le_of_ble_eq_true rfl, Nat.le_of_ble_eq_true rfl⟩ (q_rc3 hV hL_t hK_t) rfl hl.1 rfl (q_sm q_1n (Nat.le_of_ble_eq_true rfl)) dX2_smallestFrom_44 ⟨Nat.le_of_ble_eq_true rfl, Nat.le_of_ble_eq_true rfl⟩) (fun r44 S44 H locs hp44 hV => ?_)
        obtain ⟨eS44, hp44⟩ := hp44
        rw [eS44] at hV
        refine q_astore_n (r := r44) (lv' := [(2, va_rf (r44)), (0, va_rf (some h)), (1, .int (nI z0))]) C dX2_smallestFrom_47 rfl hl (by decide) (q_k0 (q_kN 1 rfl (by decide) (by decide) (q_kC 2 rfl (by decide) rfl q_kz))) (fun ls hl => ?_)
        refine q_aload_n (r := r44) C dX2_smallestFrom_48 rfl (lv_at hl 0 rfl) ?_
        refine q_ifnonnull (r := r44) (tgt := 56) C dX2_smallestFrom_49 (by decide) (fun x49 c49 => ?_) (fun c49 => ?_)
        · subst c49
          have h5 := List.mem_of_find?_eq_some hp44.symm
          obtain ⟨hL_x49, hK_x49⟩ := htree.2.2.2.1 x49 h5
          refine q_aload_n (r := some x49) C dX2_smallestFrom_56 rfl (lv_at hl 0 rfl) ?_
          refine g_Row_latest C hV hL_x49 hK_x49 (Or.inr ⟨_, wd_74⟩) dX2_smallestFrom_57 ?_
          refine q_nr (fun r57 h57 => ?_)
          refine q_aret (r := r57) C hV hr hlk (Nat.le_of_ble_eq_true rfl) (Nat.le_of_ble_eq_true rfl) dX2_smallestFrom_60 ?_
          obtain ⟨z9, h7, h8⟩ := hgreat x49 h5
          have h9 := q_row_z h8
          have h6 := List.find?_some hp44.symm
          rw [nI_toInt (by omega)] at h6
          simp at h6
          have hch := h8.2.2.2.2
          have hn := hne x49 h5
          rw [h9] at hn
          have e9 : (z9 : Int).toNat = z9 := by omega
          rw [e9] at hn
          cases hrz : rows z9 with
          | nil => exact absurd hrz hn
          | cons a u =>
            rw [hrz] at hch
            refine hpost _ _ ⟨rfl, Or.inr ⟨z9, by omega, a, u, hrz, by rw [h57]; exact hch.1, fun y h10 h11 => ?_⟩⟩
            rcases Nat.lt_or_ge y 64 with h12 | h12
            · exact hem y h10 (by omega)
            · rcases Classical.em (rows y = []) with h13 | h13
              · exact h13
              · exfalso
                obtain ⟨r, h14, h15⟩ := hgreat2 y h12 h13
                have h16 := q_row_z h15
                obtain ⟨as, bs, h17, h18⟩ := (List.find?_eq_some_iff_append.mp hp44.symm).2
                have h19 : r ∈ as := by
                  rw [h17] at h14
                  rcases List.mem_append.mp h14 with h | h
                  · exact h
                  · exfalso
                    have hso := htree.2.2.2.2
                    rw [h17] at hso
                    have hso2 := List.pairwise_cons.mp (List.pairwise_append.mp hso).2.1
                    rcases List.mem_cons.mp h with h | h
                    · rw [h] at h16; omega
                    · have := hso2.1 r h; omega
                have h20 := h18 r h19
                rw [nI_toInt (by omega)] at h20
                simp at h20
                omega
        · subst c49
          refine lv_null C.1 C.2.1 dX2_smallestFrom_52 ?_
          refine lv_goto (tgt := 60) C.1 C.2.1 dX2_smallestFrom_53 (by decide) ?_
          refine q_aret (r := none) C hV hr hlk (Nat.le_of_ble_eq_true rfl) (Nat.le_of_ble_eq_true rfl) dX2_smallestFrom_60 ?_
          refine hpost _ _ ⟨rfl, Or.inl ⟨rfl, fun y hy => ?_⟩⟩
          rcases Nat.lt_or_ge y 64 with h5 | h5
          · exact hem y hy (by omega)
          · rcases Classical.em (rows y = []) with h6 | h6
            · exact h6
            · exfalso
              obtain ⟨r, h7, h8⟩ := hgreat2 y h5 h6
              have h9 := List.find?_eq_none.mp hp44.symm r h7
              have h10 := q_row_z h8
              rw [nI_toInt (by omega)] at h9
              simp at h9
              omega
      · have h3 : z < 64 := by
          rcases Nat.lt_or_ge z 64 with h | h
          · exact h
          · exact absurd (by rw [hi]; exact nI_le (a := 64) h (by omega)) c9
        obtain ⟨rw_, hrw0, hrow⟩ := hsmall (z - 3) (by omega)
        rw [show z - 3 + 3 = z by omega] at hrow
        have hL_rw_ := hrow.1
        have hK_rw_ := hrow.2.1
        refine q_aload_n (r := some h) C dX2_smallestFrom_12 rfl (lv_at hl 1 rfl) ?_
        refine g_Shelves_small C hV hL_h hK_h (Or.inl wd_97) dX2_smallestFrom_13 ?_
        refine q_tr (v' := some ar) (hsm) ?_
        refine lv_iload_n C.1 C.2.1 dX2_smallestFrom_16 rfl (lv_at hl 0 rfl) ?_
        refine lv_iconst (v := 3) C.1 C.2.1 dX2_smallestFrom_17 (by decide) ?_
        refine lv_isub C.1 C.2.1 dX2_smallestFrom_18 ?_
        refine q_aald (j := z - 3) C hV hL_ar hK_ar (by rw [hi]; exact pk_sub (a := z) (b := 3) (by omega)) (by rw [hNar]; omega) (hN_ar) dX2_smallestFrom_19 ?_
        refine q_tr (v' := some rw_) (hrw0) ?_
        refine q_astore_n (r := some rw_) (lv' := [(3, va_rf (some rw_)), (2, .int (i)), (0, va_rf (some h)), (1, .int (nI z0))]) C dX2_smallestFrom_20 rfl hl (by decide) (q_k0 (q_kC 0 rfl (by decide) rfl (q_kN 1 rfl (by decide) (by decide) (q_kN 2 rfl (by decide) (by decide) q_kz)))) (fun ls hl => ?_)
        refine q_aload_n (r := some rw_) C dX2_smallestFrom_21 rfl (lv_at hl 0 rfl) ?_
        refine g_Row_latest C hV hL_rw_ hK_rw_ (Or.inr ⟨_, wd_74⟩) dX2_smallestFrom_22 ?_
        refine q_nr (fun r22 h22 => ?_)
        refine q_ifnull (r := r22) (tgt := 33) C dX2_smallestFrom_25 (by decide) (fun c25 => ?_) (fun x25 c25 => ?_)
        · subst c25
          obtain ⟨i33, e33⟩ : ∃ y : Int32, y = i + 1 := ⟨_, rfl⟩
          refine q_iinc (v := i33) (k := 1) (lv' := [(2, .int (i33)), (3, va_rf (some rw_)), (0, va_rf (some h)), (1, .int (nI z0))]) C dX2_smallestFrom_33 hl rfl (by rw [e33]; rfl) (by decide) (q_k0 (q_kN 0 rfl (by decide) (by decide) (q_kN 2 rfl (by decide) (by decide) (q_kC 3 rfl (by decide) rfl q_kz)))) (fun ls hl => ?_)
          refine lv_goto (tgt := 6) C.1 C.2.1 dX2_smallestFrom_36 (by decide) ?_
          exact ih i33 (z + 1) ls (by omega) (lv_sub hl [0, 2, 3] rfl) (by rw [e33, hi]; exact nI_1 z) (by omega) (by omega) (fun y h1 h2 => by
            rcases Nat.lt_or_ge y z with h3 | h3
            · exact hem y h1 h3
            · have ey : y = z := by omega
              subst ey
              have hch := hrow.2.2.2.2
              rw [← h22] at hch
              cases hrz : rows y with
              | nil => rfl
              | cons a u => rw [hrz] at hch; exact nomatch hch.1)
        · subst c25
          refine q_aload_n (r := some rw_) C dX2_smallestFrom_28 rfl (lv_at hl 0 rfl) ?_
          refine g_Row_latest C hV hL_rw_ hK_rw_ (Or.inr ⟨_, wd_74⟩) dX2_smallestFrom_29 ?_
          refine q_nr (fun r29 h29 => ?_)
          refine q_aret (r := r29) C hV hr hlk (Nat.le_of_ble_eq_true rfl) (Nat.le_of_ble_eq_true rfl) dX2_smallestFrom_32 ?_
          have hch := hrow.2.2.2.2
          rw [← h22] at hch
          cases hrz : rows z with
          | nil => rw [hrz] at hch; exact nomatch (show some x25 = none from hch)
          | cons a u =>
            rw [hrz] at hch
            refine hpost _ _ ⟨rfl, Or.inr ⟨z, hz, a, u, hrz, ?_, hem⟩⟩
            rw [h29, ← h22, hch.1]
  refine lv_iload_n C.1 C.2.1 dX2_smallestFrom_0 rfl (lv_at hl 1 rfl) ?_
  refine lv_iconst (v := 3) C.1 C.2.1 dX2_smallestFrom_1 (by decide) ?_
  refine va_mmax C.1 C.2.1 (C.2.2.1.trans hl.1.symm) C.2.2.2.1 (C.2.2.2.2 _ wd_346) (C.2.2.2.2 _ wd_347) (C.2.2.2.2 _ wd_47) (C.2.2.2.2 _ wd_348) (Nat.le_of_ble_eq_true rfl) (Nat.le_of_ble_eq_true rfl) (Nat.zero_le _) (Nat.zero_le _) dX2_smallestFrom_2 ?_
  refine q_ti (v' := nI z0) (by rw [if_neg]; intro hh; have h1 := q_i_lt.mp hh; rw [nI_toInt (by omega), q_i3] at h1; omega) ?_
  refine q_istore_n (x := nI z0) (lv' := [(2, .int (nI z0)), (0, va_rf (some h)), (1, .int (nI z0))]) C dX2_smallestFrom_5 rfl hl (by decide) (q_k0 (q_kN 0 rfl (by decide) (by decide) (q_kC 1 rfl (by decide) rfl q_kz))) (fun ls hl => ?_)
  exact loop (64 + 1 - z0 + 1) (nI z0) z0 ls (by omega) hl rfl (by omega) hz1 (fun y h1 h2 => absurd h1 (by omega))
theorem c_Shelves_smallestFrom (l : Launch) (E : qE) (S : qS) (h ar t : Nat) (ns : List Nat) (rows : Nat → List Nat) (hs : q_sh S h ar t ns rows) (z0 : Nat) (hz0 : 3 ≤ z0) (hz1 : z0 < 2 ^ 30) (hne : ∀ r ∈ ns, rows (q_z S r).toNat ≠ []) : q_Mq l yX2_smallestFrom cX2_smallestFrom 4 (.object "ChunkShelf$Piece") { frames := 1, cells := 0, slots := 0, locals := 23 } E [.ref h, .int (nI z0)] S (fun r S1 => S1 = S ∧ ((r = none ∧ ∀ y, z0 ≤ y → rows y = []) ∨ ∃ z, z0 ≤ z ∧ ∃ a u, rows z = a :: u ∧ r = some a ∧ ∀ y, z0 ≤ y → y < z → rows y = [])) 0 0 := c0_Shelves_smallestFrom l E S h ar t ns rows hs z0 hz0 hz1 hne _ (fun _ _ h => h)
end
section
/-- no row in the tree is empty -/
def q_ne (S : qS) (ns : List Nat) (rows : Nat → List Nat) : Prop := ∀ r ∈ ns, rows (q_z S r).toNat ≠ []
/-- what putIn and pullOut of p may change -/
abbrev q_cPI (p : Nat) : Nat → Nat → Prop := fun j x => j = 2 ∧ x = p
abbrev q_cPR (p : Nat) : Nat → Nat → Prop := fun j x => (j = 1 ∧ x = p) ∨ j = 2 ∨ j = 3 ∨ j = 4 ∨ j = 7
abbrev q_cPJ (h p : Nat) : Nat → Nat → Prop := fun j x => (j = 1 ∧ x = h) ∨ (j = 0 ∧ x = p)
theorem q_put_row {S : qS} {h ar t p z r : Nat} {ns : List Nat} {rows : Nat → List Nat} (hs : q_sh S h ar t ns rows) (hr : q_row S rows z r) (hlo : z < 64 → S.B ar (z - 3) = some r) (hhi : 64 ≤ z → r ∈ ns) (hp : p ∈ S.L ∧ S.K p = 0 ∧ S.I 1 p = nI z) (hnot : ∀ y, p ∉ rows y) :
    q_sh ((S.sR 1 p (S.R 2 r)).sR 2 r (some p)) h ar t ns (va_up rows z (p :: rows z)) ∧ q_fr S ((S.sR 1 p (S.R 2 r)).sR 2 r (some p)) q_c0 (fun j x => (j = 1 ∧ x = p) ∨ (j = 2 ∧ x = r)) q_c0 := by
  have hf : q_fr S ((S.sR 1 p (S.R 2 r)).sR 2 r (some p)) q_c0 (fun j x => (j = 1 ∧ x = p) ∨ (j = 2 ∧ x = r)) q_c0 := q_fr_tr (q_fr_sR (Or.inl ⟨rfl, rfl⟩)) (q_fr_sR (Or.inr ⟨rfl, rfl⟩))
  have e1 : ((S.sR 1 p (S.R 2 r)).sR 2 r (some p)).R 1 = va_up (S.R 1) p (S.R 2 r) := (qR_of _ _ _ _ (by decide)).trans (qR_is _ _ _ _)
  refine ⟨q_sh_up hs hf hr (fun _ z => z) (fun _ _ _ _ z => z) (fun a => ⟨?_, ?_, ?_, ?_, ?_⟩) (fun a hc => ?_) (fun y hy x hx hc => ?_) ⟨qR_self _ _ _ _, ?_⟩ (fun x hx => ?_) hlo hhi, hf⟩
  · rintro (⟨h1, -⟩ | ⟨h1, -⟩) <;> exact absurd h1 (by decide)
  · rintro (⟨h1, -⟩ | ⟨h1, -⟩) <;> exact absurd h1 (by decide)
  · rintro (⟨h1, -⟩ | ⟨h1, -⟩) <;> exact absurd h1 (by decide)
  · rintro (⟨h1, -⟩ | ⟨h1, -⟩) <;> exact absurd h1 (by decide)
  · rintro (⟨h1, -⟩ | ⟨h1, -⟩) <;> exact absurd h1 (by decide)
  · rcases hc with ⟨h1, -⟩ | ⟨-, h1⟩
    · exact absurd h1 (by decide)
    · exact h1
  · rcases hc with ⟨-, h1⟩ | ⟨h1, -⟩
    · exact hnot y (h1 ▸ hx)
    · exact absurd h1 (by decide)
  · rw [e1, va_up_self]
    exact q_ch_congr (fun x hx => va_up_ne _ _ (fun e : x = p => hnot z (e ▸ hx))) hr.2.2.2.2
  · rcases List.mem_cons.mp hx with rfl | hx
    · exact hp
    · obtain ⟨h1, h2, h3, -⟩ := hs.2.2.2.2.2.2 z x hx
      exact ⟨h1, h2, h3⟩
theorem q_sh_made {S S1 : qS} {h ar t z a : Nat} {ns : List Nat} {rows : Nat → List Nat} (hs : q_sh S h ar t ns rows) (hz : 64 ≤ z) (hz2 : z < 2 ^ 31)
    (hm : (S1 = S ∧ a ∈ ns ∧ q_z S a = (nI z).toInt) ∨ (a ∉ S.L ∧ q_fr S S1 q_c0 q_cT q_c0 ∧ a ∈ S1.L ∧ S1.K a = 1 ∧ S1.I 4 a = nI z ∧ S1.R 2 a = none ∧ ∃ pre post_, ns = pre ++ post_ ∧ q_tree S1 t (pre ++ a :: post_))) :
    ∃ ns', q_sh S1 h ar t ns' rows ∧ q_row S1 rows z a ∧ a ∈ ns' ∧ q_fr S S1 q_c0 q_cT q_c0 ∧ ∀ r ∈ ns', r = a ∨ r ∈ ns := by
  rcases hm with ⟨rfl, h1, h2⟩ | ⟨h1, hf, h3, h4, h5, h6, pre, post_, h7, h8⟩
  · obtain ⟨y, h3, h4⟩ := hs.2.2.2.2.1 a h1
    have h5 := q_row_z h4
    rw [nI_toInt hz2] at h2
    have e : y = z := by omega
    subst e
    exact ⟨ns, hs, h4, h1, q_fr_rf, fun r hr => Or.inr hr⟩
  · have nT : ∀ j x, j ≠ 3 → j ≠ 4 → j ≠ 7 → ¬ q_cT j x := fun j x h3 h4 h7 hc => by rcases hc with h | h | h; exact h3 h; exact h4 h; exact h7 h
    have rw1 : ∀ y r, q_row S rows y r → q_row S1 rows y r := fun y r hr => q_row_fr hr hf (fun z => z) (nT 2 r (by decide) (by decide) (by decide)) (fun p hp => ⟨(hs.2.2.2.2.2.2 y p hp).1, nT 1 p (by decide) (by decide) (by decide)⟩) rfl
    have hso := h8.2.2.2.2
    have hzq : q_z S1 a = z := by show (S1.I 4 a).toInt = _; rw [h5]; exact nI_toInt hz2
    have hnz : ∀ r ∈ ns, ∀ y, q_row S rows y r → y ≠ z := by
      intro r hr y hy e
      subst e
      have h9 := q_row_z (rw1 y r hy)
      have hr9 : r ∈ pre ++ a :: post_ := by rw [h7] at hr; simp only [List.mem_append, List.mem_cons] at hr ⊢; rcases hr with h | h <;> simp [h]
      have e9 := q_so_inj hso hr9 (by simp) (h9.trans hzq.symm)
      exact h1 (e9 ▸ hy.1)
    have hrz : rows z = [] := by
      rcases Classical.em (rows z = []) with h | h
      · exact h
      · obtain ⟨r, h10, h11⟩ := hs.2.2.2.2.2.1 z hz h
        exact absurd rfl (hnz r h10 z h11)
    have hra : q_row S1 rows z a := ⟨h3, h4, h5, hz2, by rw [hrz, h6]; rfl⟩
    refine ⟨pre ++ a :: post_, q_sh_tree hs hf h8 (fun r hr => ?_) (fun y hy hne => ?_), hra, by simp, hf, fun r hr => ?_⟩
    · simp only [List.mem_append, List.mem_cons] at hr
      rcases hr with hr | rfl | hr
      · obtain ⟨y, h10, h11⟩ := hs.2.2.2.2.1 r (by rw [h7]; simp [hr])
        exact ⟨y, h10, rw1 y r h11⟩
      · exact ⟨z, hz, hra⟩
      · obtain ⟨y, h10, h11⟩ := hs.2.2.2.2.1 r (by rw [h7]; simp [hr])
        exact ⟨y, h10, rw1 y r h11⟩
    · obtain ⟨r, h10, h11⟩ := hs.2.2.2.2.2.1 y hy hne
      exact ⟨r, by rw [h7] at h10; simp only [List.mem_append, List.mem_cons] at h10 ⊢; rcases h10 with h | h <;> simp [h], rw1 y r h11⟩
    · rw [h7]
      simp only [List.mem_append, List.mem_cons] at hr ⊢
      rcases hr with hr | hr | hr
      · exact Or.inr (Or.inl hr)
      · exact Or.inl hr
      · exact Or.inr (Or.inr hr)
theorem q_ne_put {S S' : qS} {ns ns' : List Nat} {rows : Nat → List Nat} {z a p : Nat} (hne : q_ne S ns rows) (hns : ∀ r ∈ ns', r = a ∨ (r ∈ ns ∧ q_z S' r = q_z S r)) (ha : q_z S' a = z) : q_ne S' ns' (va_up rows z (p :: rows z)) := by
  intro r hr
  by_cases e : (q_z S' r).toNat = z
  · rw [e, va_up_self]; exact fun h => nomatch h
  · rw [va_up_ne _ _ e]
    rcases hns r hr with rfl | ⟨h1, h2⟩
    · rw [ha] at e; exact absurd (by omega) e
    · rw [h2]; exact hne r h1
set_option maxHeartbeats 4000000 in
set_option maxRecDepth 100000 in
theorem c0_Shelves_putIn (l : Launch) (E : qE) (S : qS) (h ar t : Nat) (ns : List Nat) (rows : Nat → List Nat) (hs : q_sh S h ar t ns rows) (hne : q_ne S ns rows) (g9 z tm : Nat) (hL_p : g9 ∈ S.L) (hK_p : S.K g9 = 0) (hcz : S.I 1 g9 = nI z) (hz : z < 2 ^ 31) (hnot : ∀ y, g9 ∉ rows y) (hnow : S.J 1 h = lN tm) (post : qS → Prop) (hpost : ∀ S1, (∃ ns', q_sh S1 h ar t ns' (if 3 ≤ z then va_up rows z (g9 :: rows z) else rows) ∧ q_ne S1 ns' (if 3 ≤ z then va_up rows z (g9 :: rows z) else rows) ∧ q_fr S S1 (q_cPI g9) (q_cPR g9) (q_cPJ h g9) ∧ S1.I 2 g9 = 1 ∧ S1.J 0 g9 = lN (tm + 1) ∧ S1.J 1 h = lN (tm + 1)) → post S1) : q_Mv l yX2_putIn cX2_putIn 2 { frames := 3, cells := 1, slots := 4, locals := 55 } E [.ref h, .ref g9] S (post) 1 4 := by
  refine q_ofW1 (by decide) (q_1c rfl (q_1c rfl q_1n)) (Nat.le_of_ble_eq_true rfl) (fun p e s m below meth c C hV hr hlk hnm ls hl => ?_)
  have hl : lv_has ls 2 [(0, va_rf (some h)), (1, va_rf (some g9))] := hl
  have hs0 := hs
  obtain ⟨⟨hL_h, hK_h, -, -⟩, -⟩ := hs
  refine q_aload_n (r := some g9) C dX2_putIn_0 rfl (lv_at hl 1 rfl) ?_
  refine lv_iconst (v := 1) C.1 C.2.1 dX2_putIn_1 (by decide) ?_
  refine p_Piece_isFree (v := 1) C hV hL_p hK_p (by decide) (Or.inr ⟨_, wd_128⟩) dX2_putIn_2 (fun H locs hV => ?_)
  refine q_aload_n (r := some h) C dX2_putIn_5 rfl (lv_at hl 0 rfl) ?_
  refine lv_dup C.1 C.2.1 dX2_putIn_6 rfl ?_
  refine g_Shelves_now C hV hL_h hK_h (Or.inl wd_99) dX2_putIn_7 ?_
  refine q_tl (v' := lN tm) (hnow) ?_
  refine lv_lconst (v := 1) C.1 C.2.1 dX2_putIn_10 (by decide) ?_
  refine lv_ladd C.1 C.2.1 dX2_putIn_11 ?_
  refine p_Shelves_now (v := (lN tm) + 1) C hV hL_h hK_h (Or.inl wd_99) dX2_putIn_12 (fun H locs hV => ?_)
  refine q_aload_n (r := some g9) C dX2_putIn_15 rfl (lv_at hl 1 rfl) ?_
  refine q_aload_n (r := some h) C dX2_putIn_16 rfl (lv_at hl 0 rfl) ?_
  refine g_Shelves_now C hV hL_h hK_h (Or.inl wd_99) dX2_putIn_17 ?_
  refine q_tl (v' := lN (tm + 1)) ((qJ_self _ _ _ _).trans (lN_1 tm)) ?_
  refine p_Piece_since (v := lN (tm + 1)) C hV hL_p hK_p (Or.inr ⟨_, wd_129⟩) dX2_putIn_20 (fun H locs hV => ?_)
  obtain ⟨S3, hS3⟩ : ∃ X : qS, X = ((S.sI 2 g9 (1)).sJ 1 h (lN tm + 1)).sJ 0 g9 (lN (tm + 1)) := ⟨_, rfl⟩
  rw [← hS3] at hV
  have hf3 : q_fr S S3 (q_cPI g9) q_c0 (q_cPJ h g9) := by rw [hS3]; exact q_fr_tr (q_fr_tr (q_fr_sI ⟨rfl, rfl⟩) (q_fr_sJ (Or.inl ⟨rfl, rfl⟩))) (q_fr_sJ (Or.inr ⟨rfl, rfl⟩))
  have hs3 : q_sh S3 h ar t ns rows := q_sh_fr hs0 hf3 (fun a z => absurd z.1 (by decide)) (fun y x hx z => absurd z.1 (by decide)) (fun a => ⟨id, id, id, id, id, id⟩) (fun y x hx => id)
  have hi2 : S3.I 2 g9 = 1 := by rw [hS3]; exact qI_self S 2 g9 1
  have hj0 : S3.J 0 g9 = lN (tm + 1) := by rw [hS3]; exact qJ_self _ _ _ _
  have hj1 : S3.J 1 h = lN (tm + 1) := by rw [hS3]; exact (congrFun (qJ_of _ _ _ _ (by decide)) h).trans ((qJ_self _ _ _ _).trans (lN_1 tm))
  have hcz3 : S3.I 1 g9 = nI z := (hf3.2.1 g9 hL_p 1 (fun z => absurd z.1 (by decide))).trans hcz
  have hL_p3 := (hf3.1 g9 hL_p).1
  have hK_p3 := (hf3.1 g9 hL_p).2.1.trans hK_p
  obtain ⟨⟨hL_h3, hK_h3, hsm, hgr⟩, ⟨hL_ar, hK_ar, hNar⟩, hsmall, htree, hgreat, hgreat2, hpcs⟩ := id hs3
  have hL_t := htree.1
  have hK_t := htree.2.1
  have hN_ar : S3.N ar < 2 ^ 31 := by rw [hNar]; decide
  have hz3 : ∀ r ∈ ns, q_z S3 r = q_z S r := fun r hr => by show (S3.I 4 r).toInt = _; rw [hf3.2.1 r (hs0.2.2.2.1.2.2.2.1 r hr).1 4 (fun z => absurd z.1 (by decide))]; rfl
  refine q_aload_n (r := some g9) C dX2_putIn_23 rfl (lv_at hl 1 rfl) ?_
  refine g_Piece_cells C hV hL_p3 hK_p3 (Or.inr ⟨_, wd_125⟩) dX2_putIn_24 ?_
  refine q_ti (v' := nI z) (hcz3) ?_
  refine lv_bipush (v := 64) C.1 C.2.1 dX2_putIn_27 (by decide) ?_
  refine lv_icmp_lt (tgt := 50) C.1 C.2.1 dX2_putIn_29 (by decide) (fun c29 => ?_) (fun c29 => ?_)
  · have hz6 : z < 64 := by have h9 := q_i_lt.mp c29; rw [nI_toInt hz, q_i64] at h9; omega
    refine q_aload_n (r := some g9) C dX2_putIn_50 rfl (lv_at hl 1 rfl) ?_
    refine g_Piece_cells C hV hL_p3 hK_p3 (Or.inr ⟨_, wd_125⟩) dX2_putIn_51 ?_
    refine q_ti (v' := nI z) (hcz3) ?_
    refine lv_iconst (v := 3) C.1 C.2.1 dX2_putIn_54 (by decide) ?_
    refine lv_icmp_lt (tgt := 73) C.1 C.2.1 dX2_putIn_55 (by decide) (fun c55 => ?_) (fun c55 => ?_)
    · refine q_vret C hV hr hlk (Nat.le_of_ble_eq_true rfl) (Nat.le_of_ble_eq_true rfl) dX2_putIn_73 ?_
      have hz9 : ¬ 3 ≤ z := by have h9 := q_i_lt.mp c55; rw [nI_toInt hz, q_i3] at h9; omega
      refine hpost _ ⟨ns, by rw [if_neg hz9]; exact hs3, by rw [if_neg hz9]; exact fun r hr9 => by rw [hz3 r hr9]; exact hne r hr9, ?_, hi2, hj0, hj1⟩
      exact q_fr_mo hf3 (fun _ _ z => z) (fun _ _ z => z.elim) (fun _ _ z => z)
    · have hz9 : 3 ≤ z := by have h9 := mt q_i_lt.mpr c55; rw [nI_toInt hz, q_i3] at h9; omega
      obtain ⟨rw_, hrw0, hrow⟩ := hsmall (z - 3) (by omega)
      rw [show z - 3 + 3 = z by omega] at hrow
      refine q_aload_n (r := some h) C dX2_putIn_58 rfl (lv_at hl 0 rfl) ?_
      refine g_Shelves_small C hV hL_h3 hK_h3 (Or.inl wd_97) dX2_putIn_59 ?_
      refine q_tr (v' := some ar) (hsm) ?_
      refine q_aload_n (r := some g9) C dX2_putIn_62 rfl (lv_at hl 1 rfl) ?_
      refine g_Piece_cells C hV hL_p3 hK_p3 (Or.inr ⟨_, wd_125⟩) dX2_putIn_63 ?_
      refine q_ti (v' := nI z) (hcz3) ?_
      refine lv_iconst (v := 3) C.1 C.2.1 dX2_putIn_66 (by decide) ?_
      refine lv_isub C.1 C.2.1 dX2_putIn_67 ?_
      refine q_aald (j := z - 3) C hV hL_ar hK_ar (pk_sub (a := z) (b := 3) (by omega)) (by rw [hNar]; omega) (hN_ar) dX2_putIn_68 ?_
      refine q_tr (v' := some rw_) (hrw0) ?_
      refine q_aload_n (r := some g9) C dX2_putIn_69 rfl (lv_at hl 1 rfl) ?_
      refine q_cv hV (q_rN (b := rw_) (As := [va_rf (some g9)]) (rest := []) C hV (c_Row_push l E S3 rw_ g9 hrow.1 hrow.2.1 hL_p3 hK_p3) wd_176 wd_173 wd_175 wd_7 wd_39 ok_X1_push ⟨rfl, rfl, Nat.le_of_ble_eq_true rfl, Nat.le_of_ble_eq_true rfl⟩ (q_rc1 hV hrow.1 hrow.2.1) rfl hl.1 rfl (q_sm q_1n (Nat.le_of_ble_eq_true rfl)) dX2_putIn_70 ⟨Nat.le_of_ble_eq_true rfl, Nat.le_of_ble_eq_true rfl⟩) (fun S70 H locs hp70 hV => ?_)
      refine q_vret C hV hr hlk (Nat.le_of_ble_eq_true rfl) (Nat.le_of_ble_eq_true rfl) dX2_putIn_73 ?_
      subst hp70
      obtain ⟨hsF, hfF⟩ := q_put_row hs3 hrow (fun _ => hrw0) (fun h9 => absurd h9 (by omega)) ⟨hL_p3, hK_p3, hcz3⟩ hnot
      refine hpost _ ⟨ns, by rw [if_pos hz9]; exact hsF, by rw [if_pos hz9]; exact q_ne_put (a := rw_) hne (fun r hr9 => Or.inr ⟨hr9, hz3 r hr9⟩) (show q_z S3 rw_ = (z : Int) from q_row_z hrow), ?_, hi2, hj0, hj1⟩
      exact q_fr_tr (q_fr_mo hf3 (fun _ _ z => z) (fun _ _ z => z.elim) (fun _ _ z => z)) (q_fr_mo hfF (fun _ _ z => z.elim) (fun j x z => z.elim Or.inl (fun z => Or.inr (Or.inl z.1))) (fun _ _ z => z.elim))
  · have hz6 : 64 ≤ z := by have h9 := mt q_i_lt.mpr c29; rw [nI_toInt hz, q_i64] at h9; omega
    refine q_aload_n (r := some h) C dX2_putIn_32 rfl (lv_at hl 0 rfl) ?_
    refine g_Shelves_great C hV hL_h3 hK_h3 (Or.inl wd_98) dX2_putIn_33 ?_
    refine q_tr (v' := some t) (hgr) ?_
    refine q_aload_n (r := some g9) C dX2_putIn_36 rfl (lv_at hl 1 rfl) ?_
    refine g_Piece_cells C hV hL_p3 hK_p3 (Or.inr ⟨_, wd_125⟩) dX2_putIn_37 ?_
    refine q_ti (v' := nI z) (hcz3) ?_
    refine q_cq hV (q_rN (b := t) (As := [.int (nI z)]) (rest := []) C hV (c_Tree_rowMadeFor l E S3 t (nI z) ns htree) wd_158 wd_155 wd_157 wd_3 wd_40 ok_X3_rowMadeFor ⟨rfl, rfl, Nat.le_of_ble_eq_true rfl, Nat.le_of_ble_eq_true rfl⟩ (q_rc3 hV hL_t hK_t) rfl hl.1 rfl (q_sm q_1n (Nat.le_of_ble_eq_true rfl)) dX2_putIn_40 ⟨Nat.le_of_ble_eq_true rfl, Nat.le_of_ble_eq_true rfl⟩) (fun r40 S40 H locs hp40 hV => ?_)
    obtain ⟨a40, rfl, hm40⟩ := hp40
    obtain ⟨ns40, hs40, hr40, ha40, hf40, hn40⟩ := q_sh_made hs3 hz6 hz hm40
    have hL_p4 := (hf40.1 g9 hL_p3).1
    have hK_p4 := (hf40.1 g9 hL_p3).2.1.trans hK_p3
    have hcz4 : S40.I 1 g9 = nI z := (hf40.2.1 g9 hL_p3 1 (fun z => z)).trans hcz3
    refine q_aload_n (r := some g9) C dX2_putIn_43 rfl (lv_at hl 1 rfl) ?_
    refine q_cv hV (q_rN (b := a40) (As := [va_rf (some g9)]) (rest := []) C hV (c_Row_push l E S40 a40 g9 hr40.1 hr40.2.1 hL_p4 hK_p4) wd_176 wd_173 wd_175 wd_7 wd_39 ok_X1_push ⟨rfl, rfl, Nat.le_of_ble_eq_true rfl, Nat.le_of_ble_eq_true rfl⟩ (q_rc1 hV hr40.1 hr40.2.1) rfl hl.1 rfl (q_sm q_1n (Nat.le_of_ble_eq_true rfl)) dX2_putIn_44 ⟨Nat.le_of_ble_eq_true rfl, Nat.le_of_ble_eq_true rfl⟩) (fun S44 H locs hp44 hV => ?_)
    refine lv_goto (tgt := 73) C.1 C.2.1 dX2_putIn_47 (by decide) ?_
    refine q_vret C hV hr hlk (Nat.le_of_ble_eq_true rfl) (Nat.le_of_ble_eq_true rfl) dX2_putIn_73 ?_
    subst hp44
    obtain ⟨hsF, hfF⟩ := q_put_row hs40 hr40 (fun h9 => absurd h9 (by omega)) (fun _ => ha40) ⟨hL_p4, hK_p4, hcz4⟩ hnot
    have hneF : q_ne ((S40.sR 1 g9 (S40.R 2 a40)).sR 2 a40 (some g9)) ns40 (va_up rows z (g9 :: rows z)) := q_ne_put (a := a40) hne (fun r hr9 => by
      rcases hn40 r hr9 with h9 | h9
      · exact Or.inl h9
      · refine Or.inr ⟨h9, ?_⟩
        rw [← hz3 r h9]
        show (S40.I 4 r).toInt = (S3.I 4 r).toInt
        rw [hf40.2.1 r (hs3.2.2.2.1.2.2.2.1 r h9).1 4 (fun z => z)]) (show q_z S40 a40 = (z : Int) from q_row_z hr40)
    refine hpost _ ⟨ns40, by rw [if_pos (by omega)]; exact hsF, by rw [if_pos (by omega)]; exact hneF, ?_, ?_, ?_, ?_⟩
    · exact q_fr_tr (q_fr_mo hf3 (fun _ _ z => z) (fun _ _ z => z.elim) (fun _ _ z => z)) (q_fr_tr (q_fr_mo hf40 (fun _ _ z => z.elim) (fun j x z => Or.inr (Or.inr z)) (fun _ _ z => z.elim)) (q_fr_mo hfF (fun _ _ z => z.elim) (fun j x z => z.elim Or.inl (fun z => Or.inr (Or.inl z.1))) (fun _ _ z => z.elim)))
    · exact (hf40.2.1 g9 hL_p3 2 (fun z => z)).trans hi2
    · exact (hf40.2.2.2 g9 hL_p3 0 (fun z => z)).trans hj0
    · exact (hf40.2.2.2 h hL_h3 1 (fun z => z)).trans hj1
theorem c_Shelves_putIn (l : Launch) (E : qE) (S : qS) (h ar t : Nat) (ns : List Nat) (rows : Nat → List Nat) (hs : q_sh S h ar t ns rows) (hne : q_ne S ns rows) (g9 z tm : Nat) (hL_p : g9 ∈ S.L) (hK_p : S.K g9 = 0) (hcz : S.I 1 g9 = nI z) (hz : z < 2 ^ 31) (hnot : ∀ y, g9 ∉ rows y) (hnow : S.J 1 h = lN tm) : q_Mv l yX2_putIn cX2_putIn 2 { frames := 3, cells := 1, slots := 4, locals := 55 } E [.ref h, .ref g9] S (fun S1 => ∃ ns', q_sh S1 h ar t ns' (if 3 ≤ z then va_up rows z (g9 :: rows z) else rows) ∧ q_ne S1 ns' (if 3 ≤ z then va_up rows z (g9 :: rows z) else rows) ∧ q_fr S S1 (q_cPI g9) (q_cPR g9) (q_cPJ h g9) ∧ S1.I 2 g9 = 1 ∧ S1.J 0 g9 = lN (tm + 1) ∧ S1.J 1 h = lN (tm + 1)) 1 4 := c0_Shelves_putIn l E S h ar t ns rows hs hne g9 z tm hL_p hK_p hcz hz hnot hnow _ (fun _ h => h)
end
section
abbrev q_cOR (l : List Nat) : Nat → Nat → Prop := fun j x => (j = 1 ∧ x ∈ l) ∨ j = 2 ∨ j = 3 ∨ j = 4 ∨ j = 7
theorem q_pull_end {S : qS} {h ar t g : Nat} {ns : List Nat} {rows : Nat → List Nat} (hs : q_sh S h ar t ns rows) (hne : q_ne S ns rows) (v : Int32) : q_sh (S.sI 2 g v) h ar t ns rows ∧ q_ne (S.sI 2 g v) ns rows :=
  ⟨q_sh_fr (cI := q_cPI g) (cR := q_c0) (cJ := q_c0) hs (q_fr_sI ⟨rfl, rfl⟩) (fun a z => absurd z.1 (by decide)) (fun y x hx z => absurd z.1 (by decide)) (fun a => ⟨id, id, id, id, id, id⟩) (fun y x hx => id), fun r hr => hne r hr⟩
theorem q_sh_drop {S S1 : qS} {h ar t z r g : Nat} {ns : List Nat} {rows : Nat → List Nat} (hs : q_sh S h ar t ns rows) (hr : q_row S rows z r) (hlo : z < 64 → S.B ar (z - 3) = some r) (hhi : 64 ≤ z → r ∈ ns) (hf : q_fr S S1 q_c0 (fun j x => (j = 1 ∧ x ∈ rows z) ∨ (j = 2 ∧ x = r)) q_c0) (hch : q_ch (S1.R 1) (S1.R 2 r) ((rows z).erase g)) : q_sh S1 h ar t ns (va_up rows z ((rows z).erase g)) := by
  have hpcs := hs.2.2.2.2.2.2
  refine q_sh_up hs hf hr (fun _ z => z) (fun _ _ _ _ z => z) (fun a => ⟨?_, ?_, ?_, ?_, ?_⟩) (fun a hc => ?_) (fun y hy x hx hc => ?_) hch (fun x hx => ?_) hlo hhi
  · rintro (⟨h1, -⟩ | ⟨h1, -⟩) <;> exact absurd h1 (by decide)
  · rintro (⟨h1, -⟩ | ⟨h1, -⟩) <;> exact absurd h1 (by decide)
  · rintro (⟨h1, -⟩ | ⟨h1, -⟩) <;> exact absurd h1 (by decide)
  · rintro (⟨h1, -⟩ | ⟨h1, -⟩) <;> exact absurd h1 (by decide)
  · rintro (⟨h1, -⟩ | ⟨h1, -⟩) <;> exact absurd h1 (by decide)
  · rcases hc with ⟨h1, -⟩ | ⟨-, h1⟩
    · exact absurd h1 (by decide)
    · exact h1
  · rcases hc with ⟨-, h1⟩ | ⟨h1, -⟩
    · obtain ⟨-, -, e1, l1⟩ := hpcs y x hx
      obtain ⟨-, -, e2, l2⟩ := hpcs z x h1
      exact hy ((nI_eq l1 l2).mp (e1.symm.trans e2))
    · exact absurd h1 (by decide)
  · have hx0 := List.mem_of_mem_erase hx
    obtain ⟨h1, h2, h3, -⟩ := hpcs z x hx0
    exact ⟨(hf.1 x h1).1, (hf.1 x h1).2.1.trans h2, (hf.2.1 x h1 1 (fun z => z)).trans h3⟩
theorem q_sh_gone {S S1 : qS} {h ar t z r : Nat} {pre post_ : List Nat} {rows : Nat → List Nat} (hs : q_sh S h ar t (pre ++ r :: post_) rows) (hr : q_row S rows z r) (hrz : rows z = []) (hf : q_fr S S1 q_c0 q_cT q_c0) (ht : q_tree S1 t (pre ++ post_)) : q_sh S1 h ar t (pre ++ post_) rows := by
  have nT : ∀ j x, j ≠ 3 → j ≠ 4 → j ≠ 7 → ¬ q_cT j x := fun j x h3 h4 h7 hc => by rcases hc with h | h | h; exact h3 h; exact h4 h; exact h7 h
  have rw1 : ∀ y r, q_row S rows y r → q_row S1 rows y r := fun y r hr => q_row_fr hr hf (fun z => z) (nT 2 r (by decide) (by decide) (by decide)) (fun p hp => ⟨(hs.2.2.2.2.2.2 y p hp).1, nT 1 p (by decide) (by decide) (by decide)⟩) rfl
  refine q_sh_tree hs hf ht (fun x hx => ?_) (fun y hy hne => ?_)
  · obtain ⟨y, h1, h2⟩ := hs.2.2.2.2.1 x (by simp only [List.mem_append, List.mem_cons] at hx ⊢; rcases hx with h | h <;> simp [h])
    exact ⟨y, h1, rw1 y x h2⟩
  · obtain ⟨x, h1, h2⟩ := hs.2.2.2.2.2.1 y hy hne
    refine ⟨x, ?_, rw1 y x h2⟩
    simp only [List.mem_append, List.mem_cons] at h1 ⊢
    rcases h1 with h1 | h1 | h1
    · exact Or.inl h1
    · subst h1
      have e := q_row_one h2 hr
      subst e
      exact absurd hrz hne
    · exact Or.inr h1
theorem q_ne_of {S S1 : qS} {ns ns' : List Nat} {rows rows' : Nat → List Nat} (hne : q_ne S ns rows) (h : ∀ r ∈ ns', r ∈ ns ∧ q_z S1 r = q_z S r ∧ (rows (q_z S r).toNat ≠ [] → rows' (q_z S r).toNat ≠ [])) : q_ne S1 ns' rows' := fun r hr => by
  obtain ⟨h1, h2, h3⟩ := h r hr
  rw [h2]
  exact h3 (hne r h1)
set_option maxHeartbeats 4000000 in
set_option maxRecDepth 100000 in
theorem c0_Shelves_pullOut (l : Launch) (E : qE) (S : qS) (h ar t : Nat) (ns : List Nat) (rows : Nat → List Nat) (hs : q_sh S h ar t ns rows) (hne : q_ne S ns rows) (g z : Nat) (hL_g : g ∈ S.L) (hK_g : S.K g = 0) (hcz : S.I 1 g = nI z) (hz : z < 2 ^ 31) (hin : 3 ≤ z → g ∈ rows z) (post : qS → Prop) (hpost : ∀ S1, (∃ ns', q_sh S1 h ar t ns' (if 3 ≤ z then va_up rows z ((rows z).erase g) else rows) ∧ q_ne S1 ns' (if 3 ≤ z then va_up rows z ((rows z).erase g) else rows) ∧ q_fr S S1 (q_cPI g) (q_cOR (rows z)) q_c0 ∧ S1.I 2 g = 0) → post S1) : q_Mv l yX2_pullOut cX2_pullOut 3 { frames := 2, cells := 0, slots := 0, locals := 44 } E [.ref h, .ref g] S (post) 0 0 := by
  refine q_ofW1 (by decide) (q_1c rfl (q_1c rfl q_1n)) (Nat.le_of_ble_eq_true rfl) (fun p e s m below meth c C hV hr hlk hnm ls hl => ?_)
  have hl : lv_has ls 3 [(0, va_rf (some h)), (1, va_rf (some g))] := hl
  have hs0 := hs
  obtain ⟨⟨hL_h, hK_h, -, hgr⟩, -⟩ := hs
  have hpcs := hs0.2.2.2.2.2.2
  refine q_aload_n (r := some h) C dX2_pullOut_0 rfl (lv_at hl 0 rfl) ?_
  refine q_aload_n (r := some g) C dX2_pullOut_1 rfl (lv_at hl 1 rfl) ?_
  refine g_Piece_cells C hV hL_g hK_g (Or.inr ⟨_, wd_125⟩) dX2_pullOut_2 ?_
  refine q_ti (v' := nI z) (hcz) ?_
  refine q_cq hV (q_rV (b := h) (As := [.int (nI z)]) (rest := []) C hV (c_Shelves_rowOf l E S h ar t ns rows hs0 (nI z)) wd_205 wd_202 wd_204 wd_10 wd_38 ok_X2_rowOf ⟨rfl, rfl, Nat.le_of_ble_eq_true rfl, Nat.le_of_ble_eq_true rfl⟩ (q_rc2 hV hL_h hK_h) rfl hl.1 rfl (q_sm q_1n (Nat.le_of_ble_eq_true rfl)) dX2_pullOut_5 ⟨Nat.le_of_ble_eq_true rfl, Nat.le_of_ble_eq_true rfl⟩) (fun r5 S5 H locs hp5 hV => ?_)
  obtain ⟨eS5, hp5⟩ := hp5
  rw [eS5] at hV
  refine q_astore_n (r := r5) (lv' := [(2, va_rf (r5)), (0, va_rf (some h)), (1, va_rf (some g))]) C dX2_pullOut_8 rfl hl (by decide) (q_k0 (q_kN 0 rfl (by decide) (by decide) (q_kC 1 rfl (by decide) (q_cat _) q_kz))) (fun ls hl => ?_)
  refine q_aload_n (r := r5) C dX2_pullOut_9 rfl (lv_at hl 0 rfl) ?_
  refine q_ifnull (r := r5) (tgt := 42) C dX2_pullOut_10 (by decide) (fun c10 => ?_) (fun x10 c10 => ?_)
  · subst c10
    refine q_aload_n (r := some g) C dX2_pullOut_42 rfl (lv_at hl 2 rfl) ?_
    refine lv_iconst (v := 0) C.1 C.2.1 dX2_pullOut_43 (by decide) ?_
    refine p_Piece_isFree (v := 0) C hV hL_g hK_g (by decide) (Or.inr ⟨_, wd_128⟩) dX2_pullOut_44 (fun H locs hV => ?_)
    refine q_vret C hV hr hlk (Nat.le_of_ble_eq_true rfl) (Nat.le_of_ble_eq_true rfl) dX2_pullOut_47 ?_
    have hz3 : ¬ 3 ≤ z := fun h3 => by
      rcases hp5 with ⟨-, h5 | h5⟩ | ⟨a, h5, -⟩
      · rw [nI_toInt hz] at h5; omega
      · rw [nI_toInt hz, Int.toNat_natCast] at h5; have h6 := hin h3; rw [h5] at h6; cases h6
      · exact nomatch h5
    obtain ⟨hsF, hneF⟩ := q_pull_end (g := g) hs0 hne 0
    refine hpost _ ⟨ns, by rw [if_neg hz3]; exact hsF, by rw [if_neg hz3]; exact hneF, q_fr_sI ⟨rfl, rfl⟩, qI_self _ _ _ _⟩
  · subst c10
    obtain ⟨hz3, hrow, hlo, hhi⟩ : 3 ≤ z ∧ q_row S rows z x10 ∧ (z < 64 → S.B ar (z - 3) = some x10) ∧ (64 ≤ z → x10 ∈ ns) := by
      rcases hp5 with ⟨h5, -⟩ | ⟨a, h5, h6, h7, h8, h9⟩
      · exact nomatch h5
      · cases h5
        rw [nI_toInt hz] at h6 h7 h8 h9
        rw [Int.toNat_natCast] at h7 h8
        exact ⟨by omega, h7, fun h => h8 (by omega), fun h => h9 (by omega)⟩
    have hL_x10 := hrow.1
    have hK_x10 := hrow.2.1
    refine q_aload_n (r := some x10) C dX2_pullOut_13 rfl (lv_at hl 0 rfl) ?_
    refine q_aload_n (r := some g) C dX2_pullOut_14 rfl (lv_at hl 2 rfl) ?_
    refine q_cv hV (q_rN (b := x10) (As := [va_rf (some g)]) (rest := []) C hV (c_Row_drop l E S x10 g (rows z) hL_x10 hK_x10 hL_g hK_g hrow.2.2.2.2 (fun a ha => ⟨(hpcs z a ha).1, (hpcs z a ha).2.1⟩)) wd_210 wd_207 wd_209 wd_11 wd_39 ok_X1_drop ⟨rfl, rfl, Nat.le_of_ble_eq_true rfl, Nat.le_of_ble_eq_true rfl⟩ (q_rc1 hV hL_x10 hK_x10) rfl hl.1 rfl (q_sm q_1n (Nat.le_of_ble_eq_true rfl)) dX2_pullOut_15 ⟨Nat.le_of_ble_eq_true rfl, Nat.le_of_ble_eq_true rfl⟩) (fun S15 H locs hp15 hV => ?_)
    have hs15 := q_sh_drop (g := g) hs0 hrow hlo hhi hp15.1 hp15.2.2
    have hL_x15 := (hp15.1.1 x10 hL_x10).1
    have hK_x15 := (hp15.1.1 x10 hL_x10).2.1.trans hK_x10
    have hL_g15 := (hp15.1.1 g hL_g).1
    have hK_g15 := (hp15.1.1 g hL_g).2.1.trans hK_g
    obtain ⟨hL_h15, hK_h15, -, hgr15⟩ := id hs15.1
    have hzz : ∀ r ∈ ns, q_z S15 r = q_z S r := fun r hr => by show (S15.I 4 r).toInt = _; rw [hp15.1.2.1 r (hs0.2.2.2.1.2.2.2.1 r hr).1 4 (fun z => z)]; rfl
    have hIx : S15.I 4 x10 = nI z := (hp15.1.2.1 x10 hL_x10 4 (fun z => z)).trans hrow.2.2.1
    refine q_aload_n (r := some x10) C dX2_pullOut_18 rfl (lv_at hl 0 rfl) ?_
    refine g_Row_latest C hV hL_x15 hK_x15 (Or.inr ⟨_, wd_74⟩) dX2_pullOut_19 ?_
    refine q_nr (fun r19 h19 => ?_)
    refine q_ifnonnull (r := r19) (tgt := 42) C dX2_pullOut_22 (by decide) (fun x22 c22 => ?_) (fun c22 => ?_)
    · subst c22
      have hne9 : (rows z).erase g ≠ [] := fun h9 => by
        have h10 := hp15.2.2
        rw [h9, ← h19] at h10
        exact nomatch (show some x22 = none from h10)
      have hne15 : q_ne S15 ns (va_up rows z ((rows z).erase g)) := q_ne_of hne (fun r hr9 => ⟨hr9, hzz r hr9, fun h9 => by
        by_cases e : (q_z S r).toNat = z
        · rw [e, va_up_self]; exact hne9
        · rw [va_up_ne _ _ e]; exact h9⟩)
      refine q_aload_n (r := some g) C dX2_pullOut_42 rfl (lv_at hl 2 rfl) ?_
      refine lv_iconst (v := 0) C.1 C.2.1 dX2_pullOut_43 (by decide) ?_
      refine p_Piece_isFree (v := 0) C hV hL_g15 hK_g15 (by decide) (Or.inr ⟨_, wd_128⟩) dX2_pullOut_44 (fun H locs hV => ?_)
      refine q_vret C hV hr hlk (Nat.le_of_ble_eq_true rfl) (Nat.le_of_ble_eq_true rfl) dX2_pullOut_47 ?_
      obtain ⟨hsF, hneF⟩ := q_pull_end (g := g) hs15 hne15 0
      refine hpost _ ⟨ns, by rw [if_pos hz3]; exact hsF, by rw [if_pos hz3]; exact hneF, q_fr_tr (q_fr_mo hp15.1 (fun _ _ z => z.elim) (fun j x z => z.elim Or.inl (fun z => Or.inr (Or.inl z.1))) (fun _ _ z => z)) (q_fr_sI ⟨rfl, rfl⟩), qI_self _ _ _ _⟩
    · subst c22
      refine q_aload_n (r := some x10) C dX2_pullOut_25 rfl (lv_at hl 0 rfl) ?_
      refine g_Row_cells C hV hL_x15 hK_x15 (Or.inr ⟨_, wd_72⟩) dX2_pullOut_26 ?_
      refine q_ti (v' := nI z) (hIx) ?_
      refine lv_bipush (v := 64) C.1 C.2.1 dX2_pullOut_29 (by decide) ?_
      refine lv_icmp_lt (tgt := 42) C.1 C.2.1 dX2_pullOut_31 (by decide) (fun c31 => ?_) (fun c31 => ?_)
      · have hz6 : z < 64 := by have h9 := q_i_lt.mp c31; rw [nI_toInt hz, q_i64] at h9; omega
        have hne15 : q_ne S15 ns (va_up rows z ((rows z).erase g)) := q_ne_of hne (fun r hr9 => ⟨hr9, hzz r hr9, fun h9 => by
          obtain ⟨y, h10, h11⟩ := hs0.2.2.2.2.1 r hr9
          have h12 := q_row_z h11
          rw [va_up_ne _ _ (by omega)]
          exact h9⟩)
        refine q_aload_n (r := some g) C dX2_pullOut_42 rfl (lv_at hl 2 rfl) ?_
        refine lv_iconst (v := 0) C.1 C.2.1 dX2_pullOut_43 (by decide) ?_
        refine p_Piece_isFree (v := 0) C hV hL_g15 hK_g15 (by decide) (Or.inr ⟨_, wd_128⟩) dX2_pullOut_44 (fun H locs hV => ?_)
        refine q_vret C hV hr hlk (Nat.le_of_ble_eq_true rfl) (Nat.le_of_ble_eq_true rfl) dX2_pullOut_47 ?_
        obtain ⟨hsF, hneF⟩ := q_pull_end (g := g) hs15 hne15 0
        refine hpost _ ⟨ns, by rw [if_pos hz3]; exact hsF, by rw [if_pos hz3]; exact hneF, q_fr_tr (q_fr_mo hp15.1 (fun _ _ z => z.elim) (fun j x z => z.elim Or.inl (fun z => Or.inr (Or.inl z.1))) (fun _ _ z => z)) (q_fr_sI ⟨rfl, rfl⟩), qI_self _ _ _ _⟩
      · have hz6 : 64 ≤ z := by have h9 := mt q_i_lt.mpr c31; rw [nI_toInt hz, q_i64] at h9; omega
        obtain ⟨pre, post_, hns⟩ := List.append_of_mem (hhi hz6)
        have hem : (rows z).erase g = [] := by
          have h10 := hp15.2.2
          rw [← h19] at h10
          cases hr9 : (rows z).erase g with
          | nil => rfl
          | cons a u => rw [hr9] at h10; exact nomatch h10.1
        have htr15 : q_tree S15 t (pre ++ x10 :: post_) := by rw [← hns]; exact hs15.2.2.2.1
        have hL_t := htr15.1
        have hK_t := htr15.2.1
        refine q_aload_n (r := some h) C dX2_pullOut_34 rfl (lv_at hl 1 rfl) ?_
        refine g_Shelves_great C hV hL_h15 hK_h15 (Or.inl wd_98) dX2_pullOut_35 ?_
        refine q_tr (v' := some t) (hgr15) ?_
        refine q_aload_n (r := some x10) C dX2_pullOut_38 rfl (lv_at hl 0 rfl) ?_
        refine q_cv hV (q_rN (b := t) (As := [va_rf (some x10)]) (rest := []) C hV (c_Tree_remove l E S15 t x10 pre post_ htr15) wd_214 wd_211 wd_213 wd_12 wd_40 ok_X3_remove ⟨rfl, rfl, Nat.le_of_ble_eq_true rfl, Nat.le_of_ble_eq_true rfl⟩ (q_rc3 hV hL_t hK_t) rfl hl.1 rfl (q_sm q_1n (Nat.le_of_ble_eq_true rfl)) dX2_pullOut_39 ⟨Nat.le_of_ble_eq_true rfl, Nat.le_of_ble_eq_true rfl⟩) (fun S39 H locs hp39 hV => ?_)
        have hrow15 : q_row S15 (va_up rows z ((rows z).erase g)) z x10 := ⟨hL_x15, hK_x15, hIx, hz, by rw [va_up_self]; exact hp15.2.2⟩
        have hs39 := q_sh_gone (z := z) (r := x10) (by rw [← hns]; exact hs15) hrow15 (by rw [va_up_self]; exact hem) hp39.1 hp39.2
        have hL_g39 := (hp39.1.1 g hL_g15).1
        have hK_g39 := (hp39.1.1 g hL_g15).2.1.trans hK_g15
        have hne39 : q_ne S39 (pre ++ post_) (va_up rows z ((rows z).erase g)) := q_ne_of hne (fun r hr9 => by
          have hrn : r ∈ ns := by rw [hns]; simp only [List.mem_append, List.mem_cons] at hr9 ⊢; rcases hr9 with h | h <;> simp [h]
          refine ⟨hrn, ?_, fun h9 => ?_⟩
          · rw [← hzz r hrn]
            show (S39.I 4 r).toInt = (S15.I 4 r).toInt
            rw [hp39.1.2.1 r (hs15.2.2.2.1.2.2.2.1 r hrn).1 4 (fun z => z)]
          · obtain ⟨y, h10, h11⟩ := hs0.2.2.2.2.1 r hrn
            have h12 := q_row_z h11
            rw [va_up_ne]
            · exact h9
            · intro e
              have h13 : r = x10 := q_so_inj hs0.2.2.2.1.2.2.2.2 hrn (hhi hz6) (by rw [q_row_z hrow]; omega)
              have hnd := q_so_nodup hs0.2.2.2.1.2.2.2.2
              rw [hns] at hnd
              subst h13
              have h14 := List.nodup_append.mp hnd
              rcases List.mem_append.mp hr9 with h | h
              · exact h14.2.2 r h r List.mem_cons_self rfl
              · exact (List.nodup_cons.mp h14.2.1).1 h)
        refine q_aload_n (r := some g) C dX2_pullOut_42 rfl (lv_at hl 2 rfl) ?_
        refine lv_iconst (v := 0) C.1 C.2.1 dX2_pullOut_43 (by decide) ?_
        refine p_Piece_isFree (v := 0) C hV hL_g39 hK_g39 (by decide) (Or.inr ⟨_, wd_128⟩) dX2_pullOut_44 (fun H locs hV => ?_)
        refine q_vret C hV hr hlk (Nat.le_of_ble_eq_true rfl) (Nat.le_of_ble_eq_true rfl) dX2_pullOut_47 ?_
        obtain ⟨hsF, hneF⟩ := q_pull_end (g := g) hs39 hne39 0
        refine hpost _ ⟨pre ++ post_, by rw [if_pos hz3]; exact hsF, by rw [if_pos hz3]; exact hneF, q_fr_tr (q_fr_tr (q_fr_mo hp15.1 (fun _ _ z => z.elim) (fun j x z => z.elim Or.inl (fun z => Or.inr (Or.inl z.1))) (fun _ _ z => z)) (q_fr_mo hp39.1 (fun _ _ z => z.elim) (fun j x z => Or.inr (Or.inr z)) (fun _ _ z => z))) (q_fr_sI ⟨rfl, rfl⟩), qI_self _ _ _ _⟩
theorem c_Shelves_pullOut (l : Launch) (E : qE) (S : qS) (h ar t : Nat) (ns : List Nat) (rows : Nat → List Nat) (hs : q_sh S h ar t ns rows) (hne : q_ne S ns rows) (g z : Nat) (hL_g : g ∈ S.L) (hK_g : S.K g = 0) (hcz : S.I 1 g = nI z) (hz : z < 2 ^ 31) (hin : 3 ≤ z → g ∈ rows z) : q_Mv l yX2_pullOut cX2_pullOut 3 { frames := 2, cells := 0, slots := 0, locals := 44 } E [.ref h, .ref g] S (fun S1 => ∃ ns', q_sh S1 h ar t ns' (if 3 ≤ z then va_up rows z ((rows z).erase g) else rows) ∧ q_ne S1 ns' (if 3 ≤ z then va_up rows z ((rows z).erase g) else rows) ∧ q_fr S S1 (q_cPI g) (q_cOR (rows z)) q_c0 ∧ S1.I 2 g = 0) 0 0 := c0_Shelves_pullOut l E S h ar t ns rows hs hne g z hL_g hK_g hcz hz hin _ (fun _ h => h)
end
section
abbrev q_cCR : Nat → Nat → Prop := fun j _ => j = 2 ∨ j = 7
theorem q_cleared {S S1 : qS} {h ar t : Nat} {ns : List Nat} {rows : Nat → List Nat} (hs : q_sh S h ar t ns rows) (hf : q_fr S S1 q_c0 q_cCR q_c0) (h0 : ∀ k r, k < 61 → S.B ar k = some r → S1.R 2 r = none) (ht : S1.R 7 t = none) : q_sh S1 h ar t [] (fun _ => []) := by
  obtain ⟨⟨a1, a2, a3, a4⟩, ⟨b1, b2, b3⟩, c1, d1, e1, f1, g1⟩ := hs
  refine ⟨⟨(hf.1 h a1).1, (hf.1 h a1).2.1.trans a2, (hf.2.2.1 h a1 5 (fun z => by rcases z with z | z <;> exact absurd z (by decide))).trans a3, (hf.2.2.1 h a1 6 (fun z => by rcases z with z | z <;> exact absurd z (by decide))).trans a4⟩, ⟨(hf.1 ar b1).1, (hf.1 ar b1).2.1.trans b2, (hf.1 ar b1).2.2.1.trans b3⟩, fun i hi => ?_, ⟨(hf.1 t d1.1).1, (hf.1 t d1.1).2.1.trans d1.2.1, ⟨0, ht, rfl⟩, fun a ha => (nomatch ha), List.Pairwise.nil⟩, fun r hr => (nomatch hr), fun z _ hz => absurd rfl hz, fun z p hp => (nomatch hp)⟩
  obtain ⟨r, h1, h2⟩ := c1 i hi
  exact ⟨r, by rw [(hf.1 ar b1).2.2.2.2]; exact h1, (hf.1 r h2.1).1, (hf.1 r h2.1).2.1.trans h2.2.1, (hf.2.1 r h2.1 4 (fun z => z)).trans h2.2.2.1, h2.2.2.2.1, h0 i r hi h1⟩
set_option maxHeartbeats 4000000 in
set_option maxRecDepth 100000 in
theorem c0_Shelves_clear (l : Launch) (E : qE) (S : qS) (h ar t : Nat) (ns : List Nat) (rows : Nat → List Nat) (hs : q_sh S h ar t ns rows) (post : qS → Prop) (hpost : ∀ S1, (q_sh S1 h ar t [] (fun _ => []) ∧ q_fr S S1 q_c0 q_cCR q_c0) → post S1) : q_Mv l yX2_clear cX2_clear 2 { frames := 0, cells := 0, slots := 0, locals := 0 } E [.ref h] S (post) 0 0 := by
  refine q_ofW1 (by decide) (q_1c rfl q_1n) (Nat.le_of_ble_eq_true rfl) (fun p e s m below meth c C hV hr hlk hnm ls hl => ?_)
  have hl : lv_has ls 2 [(0, va_rf (some h))] := hl
  have hs0 := hs
  obtain ⟨⟨hL_h0, hK_h0, hsm, hgr⟩, ⟨hL_ar0, hK_ar0, hNar⟩, hsmall, htree, hgreat, hgreat2, hpcs⟩ := hs
  have loop : ∀ (k : Nat) (i : Int32) (j : Nat) (S' : qS) (H : Heap) (locs : List Loc) (ls : Array Slot), 61 + 1 - j < k → q_V E s S' H locs → lv_has ls 2 [(1, .int (i)), (0, va_rf (some h))] → i = nI j → j ≤ 61 → q_fr S S' q_c0 (fun j _ => j = 2) q_c0 → (∀ k r, k < j → S.B ar k = some r → S'.R 2 r = none) → W p l e ({ frames := 0, cells := 0, slots := 0, locals := 0 } : Room) s m [.ref h].toArray below meth c H locs (0) (0) (MQ below (va_Qv (post) (q_B E) E.A) [.ref h].toArray s (0) (0) E.A) (F0 m 2 ls []) := by
    intro k
    induction k with
    | zero => intro i j S' H locs ls hk; exact absurd hk (Nat.not_lt_zero _)
    | succ k ih =>
      intro i j S' H locs ls hk hV hl hi hj hf h0
      have hL_h := (hf.1 h hL_h0).1
      have hK_h := (hf.1 h hL_h0).2.1.trans hK_h0
      have hL_ar := (hf.1 ar hL_ar0).1
      have hK_ar := (hf.1 ar hL_ar0).2.1.trans hK_ar0
      have hN_ar : S'.N ar < 2 ^ 31 := by rw [(hf.1 ar hL_ar0).2.2.1, hNar]; decide
      refine lv_iload_n C.1 C.2.1 dX2_clear_2 rfl (lv_at hl 0 rfl) ?_
      refine q_aload_n (r := some h) C dX2_clear_3 rfl (lv_at hl 1 rfl) ?_
      refine g_Shelves_small C hV hL_h hK_h (Or.inl wd_97) dX2_clear_4 ?_
      refine q_tr (v' := some ar) ((hf.2.2.1 h hL_h0 5 (fun z => absurd (show (5 : Nat) = 2 from z) (by decide))).trans hsm) ?_
      refine q_len7 C hV hL_ar hK_ar dX2_clear_7 ?_
      refine q_ti (v' := nI 61) (by rw [(hf.1 ar hL_ar0).2.2.1, hNar]) ?_
      refine lv_icmp_ge (tgt := 27) C.1 C.2.1 dX2_clear_8 (by decide) (fun c8 => ?_) (fun c8 => ?_)
      · have hj61 : j = 61 := by
          rcases Nat.lt_or_ge j 61 with h9 | h9
          · exact absurd (by rw [hi] at c8; exact c8) (nI_ge h9 (by omega))
          · omega
        have hL_t := (hf.1 t htree.1).1
        have hK_t := (hf.1 t htree.1).2.1.trans htree.2.1
        refine q_aload_n (r := some h) C dX2_clear_27 rfl (lv_at hl 1 rfl) ?_
        refine g_Shelves_great C hV hL_h hK_h (Or.inl wd_98) dX2_clear_28 ?_
        refine q_tr (v' := some t) ((hf.2.2.1 h hL_h0 6 (fun z => absurd (show (6 : Nat) = 2 from z) (by decide))).trans hgr) ?_
        refine lv_null C.1 C.2.1 dX2_clear_31 ?_
        refine p_Tree_root (v := none) C hV hL_t hK_t (Or.inr ⟨_, wd_93⟩) dX2_clear_32 (fun H locs hV => ?_)
        refine q_vret C hV hr hlk (Nat.le_of_ble_eq_true rfl) (Nat.le_of_ble_eq_true rfl) dX2_clear_35 ?_
        refine hpost _ ⟨q_cleared hs0 (q_fr_tr (q_fr_mo hf (fun _ _ z => z) (fun j x z => Or.inl z) (fun _ _ z => z)) (q_fr_sR (Or.inr rfl))) (fun k9 r h1 h2 => h0 k9 r (by omega) h2) (qR_self _ _ _ _), q_fr_tr (q_fr_mo hf (fun _ _ z => z) (fun j x z => Or.inl z) (fun _ _ z => z)) (q_fr_sR (Or.inr rfl))⟩
      · have hj61 : j < 61 := by
          rcases Nat.lt_or_ge j 61 with h9 | h9
          · exact h9
          · exact absurd (by rw [hi]; exact nI_le h9 (by omega)) c8
        obtain ⟨rw_, hrw0, hrow⟩ := hsmall j hj61
        have hL_rw_ := (hf.1 rw_ hrow.1).1
        have hK_rw_ := (hf.1 rw_ hrow.1).2.1.trans hrow.2.1
        refine q_aload_n (r := some h) C dX2_clear_11 rfl (lv_at hl 1 rfl) ?_
        refine g_Shelves_small C hV hL_h hK_h (Or.inl wd_97) dX2_clear_12 ?_
        refine q_tr (v' := some ar) ((hf.2.2.1 h hL_h0 5 (fun z => absurd (show (5 : Nat) = 2 from z) (by decide))).trans hsm) ?_
        refine lv_iload_n C.1 C.2.1 dX2_clear_15 rfl (lv_at hl 0 rfl) ?_
        refine q_aald (j := j) C hV hL_ar hK_ar (hi) (by rw [(hf.1 ar hL_ar0).2.2.1, hNar]; exact hj61) (hN_ar) dX2_clear_16 ?_
        refine q_tr (v' := some rw_) (by rw [(hf.1 ar hL_ar0).2.2.2.2]; exact hrw0) ?_
        refine lv_null C.1 C.2.1 dX2_clear_17 ?_
        refine p_Row_latest (v := none) C hV hL_rw_ hK_rw_ (Or.inr ⟨_, wd_74⟩) dX2_clear_18 (fun H locs hV => ?_)
        obtain ⟨i21, e21⟩ : ∃ y : Int32, y = i + 1 := ⟨_, rfl⟩
        refine q_iinc (v := i21) (k := 0) (lv' := [(1, .int (i21)), (0, va_rf (some h))]) C dX2_clear_21 hl rfl (by rw [e21]; rfl) (by decide) (q_k0 (q_kC 1 rfl (by decide) (q_cat _) q_kz)) (fun ls hl => ?_)
        refine lv_goto (tgt := 2) C.1 C.2.1 dX2_clear_24 (by decide) ?_
        exact ih i21 (j + 1) (S'.sR 2 rw_ none) H locs ls (by omega) hV hl (by rw [e21, hi]; exact nI_1 j) (by omega) (q_fr_tr hf (q_fr_sR rfl)) (fun k9 r h1 h2 => by
          by_cases e : r = rw_
          · rw [e]; exact qR_self _ _ _ _
          · rw [qR_ne _ _ _ _ e]
            rcases Nat.lt_or_ge k9 j with h3 | h3
            · exact h0 k9 r h3 h2
            · have e9 : k9 = j := by omega
              subst e9
              exact absurd (Option.some.inj (h2.symm.trans hrw0)) e)
  refine lv_iconst (v := 0) C.1 C.2.1 dX2_clear_0 (by decide) ?_
  refine q_istore_n (x := 0) (lv' := [(1, .int (0)), (0, va_rf (some h))]) C dX2_clear_1 rfl hl (by decide) (q_k0 (q_kC 0 rfl (by decide) (q_cat _) q_kz)) (fun ls hl => ?_)
  exact loop (61 + 2) 0 0 S s.heap [] ls (by omega) hV hl nI_0.symm (by omega) q_fr_rf (fun k9 r h1 => absurd h1 (Nat.not_lt_zero _))
theorem c_Shelves_clear (l : Launch) (E : qE) (S : qS) (h ar t : Nat) (ns : List Nat) (rows : Nat → List Nat) (hs : q_sh S h ar t ns rows) : q_Mv l yX2_clear cX2_clear 2 { frames := 0, cells := 0, slots := 0, locals := 0 } E [.ref h] S (fun S1 => q_sh S1 h ar t [] (fun _ => []) ∧ q_fr S S1 q_c0 q_cCR q_c0) 0 0 := c0_Shelves_clear l E S h ar t ns rows hs _ (fun _ h => h)
end
section
theorem q_fr_nB {S : qS} {q k : Nat} {cI cR cJ : Nat → Nat → Prop} (h : q ∉ S.L) : q_fr S (S.nB q k) cI cR cJ :=
  ⟨fun a ha => ⟨List.mem_append_left _ ha, va_up_ne _ _ (fun e : a = q => h (e ▸ ha)), va_up_ne _ _ (fun e : a = q => h (e ▸ ha)), rfl, va_up_ne _ _ (fun e : a = q => h (e ▸ ha))⟩, fun _ _ _ _ => rfl, fun _ _ _ _ => rfl, fun _ _ _ _ => rfl⟩
theorem q_fr_mk {S S' : qS} {q ar j : Nat} {v : Int32} {w : Option Nat} {cI cR cJ : Nat → Nat → Prop} (hf : q_fr S S' cI cR cJ) (hq : q ∉ S'.L) (har : ar ∉ S.L) : q_fr S (((S'.nO q 1).sI 4 q v).sB ar j w) cI cR cJ := by
  have ne : ∀ a ∈ S.L, a ≠ q := fun a ha e => hq (e ▸ (hf.1 a ha).1)
  have ne2 : ∀ a ∈ S.L, a ≠ ar := fun a ha e => har (e ▸ ha)
  refine ⟨fun a ha => ?_, fun a ha i hi => ?_, fun a ha i hi => ?_, fun a ha i hi => ?_⟩
  · obtain ⟨h1, h2, h3, h4, h5⟩ := hf.1 a ha
    exact ⟨List.mem_append_left _ h1, (va_up_ne _ _ (ne a ha)).trans h2, h3, h4, (qB_ne _ _ _ _ (ne2 a ha)).trans h5⟩
  · have e1 : ((S'.nO q 1).sI 4 q v).I i a = S'.I i a := (qI_ne (S'.nO q 1) 4 q v (ne a ha) i).trans (va_up_ne _ _ (ne a ha))
    exact e1.trans (hf.2.1 a ha i hi)
  · have e1 : (S'.nO q 1).R i a = S'.R i a := va_up_ne _ _ (ne a ha)
    exact e1.trans (hf.2.2.1 a ha i hi)
  · have e1 : (S'.nO q 1).J i a = S'.J i a := va_up_ne _ _ (ne a ha)
    exact e1.trans (hf.2.2.2 a ha i hi)
/-- the small rows that have been made, i of them -/
def q_mk (S : qS) (h ar i : Nat) : Prop := (h ∈ S.L ∧ S.K h = 2 ∧ S.R 5 h = some ar) ∧ (ar ∈ S.L ∧ S.K ar = 7 ∧ S.N ar = 61) ∧ ∀ k, k < i → ∃ r, S.B ar k = some r ∧ r ∈ S.L ∧ S.K r = 1 ∧ S.I 4 r = nI (k + 3) ∧ S.R 2 r = none
theorem q_mk_step {S : qS} {h ar i q : Nat} (hm : q_mk S h ar i) (hq : q ∉ S.L) : q_mk (((S.nO q 1).sI 4 q (nI (i + 3))).sB ar i (some q)) h ar (i + 1) := by
  obtain ⟨⟨a1, a2, a3⟩, ⟨b1, b2, b3⟩, c1⟩ := hm
  have ne : ∀ a ∈ S.L, a ≠ q := fun a ha e => hq (e ▸ ha)
  have eR : ∀ j, ∀ a ∈ S.L, (((S.nO q 1).sI 4 q (nI (i + 3))).sB ar i (some q)).R j a = S.R j a := fun j a ha => va_up_ne _ _ (ne a ha)
  have eI : ∀ a ∈ S.L, (((S.nO q 1).sI 4 q (nI (i + 3))).sB ar i (some q)).I 4 a = S.I 4 a := fun a ha => (qI_ne (S.nO q 1) 4 q (nI (i + 3)) (ne a ha) 4).trans (va_up_ne _ _ (ne a ha))
  have eK : ∀ a ∈ S.L, (((S.nO q 1).sI 4 q (nI (i + 3))).sB ar i (some q)).K a = S.K a := fun a ha => va_up_ne _ _ (ne a ha)
  have eL : ∀ a ∈ S.L, a ∈ (((S.nO q 1).sI 4 q (nI (i + 3))).sB ar i (some q)).L := fun a ha => List.mem_append_left _ ha
  refine ⟨⟨eL h a1, (eK h a1).trans a2, (eR 5 h a1).trans a3⟩, ⟨eL ar b1, (eK ar b1).trans b2, b3⟩, fun k hk => ?_⟩
  rcases Nat.lt_or_ge k i with h1 | h1
  · obtain ⟨r, d1, d2, d3, d4, d5⟩ := c1 k h1
    refine ⟨r, ?_, eL r d2, (eK r d2).trans d3, (eI r d2).trans d4, (eR 2 r d2).trans d5⟩
    rw [qB_is, va_up_ne _ _ (by omega)]
    exact d1
  · have e : k = i := by omega
    subst e
    have e4 : ((S.nO q 1).sI 4 q (nI (k + 3))).I 4 q = nI (k + 3) := qI_self _ _ _ _
    have e5 : (S.nO q 1).R 2 q = none := va_up_self _ _ _
    refine ⟨q, ?_, q_nO_in S q 1, q_nO_K S q 1, e4, e5⟩
    rw [qB_is, va_up_self]
theorem q_shelved {S S' : qS} {h ar q j : Nat} (hf : q_fr S S' q_c0 (fun _ x => x = h) q_c0) (hm : q_mk S' h ar j) (hq : q ∉ S'.L) (hj : j = 61) (har : ar ∉ S.L) :
    ∃ ar t, q_sh ((S'.nO q 3).sR 6 h (some q)) h ar t [] (fun _ => []) ∧ q_fr S ((S'.nO q 3).sR 6 h (some q)) q_c0 (fun _ x => x = h) q_c0 ∧ ar ∉ S.L ∧ t ∉ S.L := by
  obtain ⟨⟨a1, a2, a3⟩, ⟨b1, b2, b3⟩, c1⟩ := hm
  subst hj
  have ne : ∀ a ∈ S'.L, a ≠ q := fun a ha e => hq (e ▸ ha)
  have eR : ∀ i, i ≠ 6 → ∀ a, a ≠ q → ((S'.nO q 3).sR 6 h (some q)).R i a = S'.R i a := fun i hi a ha => (congrFun (qR_of (S'.nO q 3) 6 h (some q) hi) a).trans (va_up_ne _ _ ha)
  have eq7 : ((S'.nO q 3).sR 6 h (some q)).R 7 q = none := (congrFun (qR_of (S'.nO q 3) 6 h (some q) (by decide)) q).trans (va_up_self _ _ _)
  have eI : ∀ a, a ≠ q → ((S'.nO q 3).sR 6 h (some q)).I 4 a = S'.I 4 a := fun a ha => va_up_ne _ _ ha
  have eK : ∀ a, a ≠ q → ((S'.nO q 3).sR 6 h (some q)).K a = S'.K a := fun a ha => va_up_ne _ _ ha
  have eL : ∀ a ∈ S'.L, a ∈ ((S'.nO q 3).sR 6 h (some q)).L := fun a ha => List.mem_append_left _ ha
  refine ⟨ar, q, ⟨⟨eL h a1, (eK h (ne h a1)).trans a2, (eR 5 (by decide) h (ne h a1)).trans a3, qR_self _ _ _ _⟩, ⟨eL ar b1, (eK ar (ne ar b1)).trans b2, b3⟩, fun i hi => ?_, ⟨q_nO_in S' q 3, q_nO_K S' q 3, ⟨0, eq7, rfl⟩, fun a ha => (nomatch ha), List.Pairwise.nil⟩, fun r hr => (nomatch hr), fun z _ hz => absurd rfl hz, fun z p hp => (nomatch hp)⟩, q_fr_tr hf (q_fr_tr (q_fr_nO hq) (q_fr_sR rfl)), har, fun h9 => hq (hf.1 q h9).1⟩
  obtain ⟨r, d1, d2, d3, d4, d5⟩ := c1 i hi
  exact ⟨r, d1, eL r d2, (eK r (ne r d2)).trans d3, (eI r (ne r d2)).trans d4, by omega, (eR 2 (by decide) r (ne r d2)).trans d5⟩
set_option maxHeartbeats 4000000 in
set_option maxRecDepth 100000 in
theorem c0_Shelves_init (l : Launch) (E : qE) (S : qS) (h : Nat) (hL_h : h ∈ S.L) (hK_h : S.K h = 2) (post : qS → Prop) (hpost : ∀ S1, (∃ ar t, q_sh S1 h ar t [] (fun _ => []) ∧ q_fr S S1 q_c0 (fun _ x => x = h) q_c0 ∧ ar ∉ S.L ∧ t ∉ S.L) → post S1) : q_Mv l yX2_init cX2_init 2 { frames := 2, cells := 63, slots := 306, locals := 33 } E [.ref h] S (post) 63 306 := by
  refine q_ofW1 (by decide) (q_1c rfl q_1n) (Nat.le_of_ble_eq_true rfl) (fun p e s m below meth c C hV hr hlk hnm ls hl => ?_)
  have hl : lv_has ls 2 [(0, va_rf (some h))] := hl
  refine q_aload_n (r := some h) C dX2_init_0 rfl (lv_at hl 0 rfl) ?_
  refine q_objInit C wd_62 wd_55 wd_56 hl.1 dX2_init_1 (Nat.le_of_ble_eq_true rfl) (Nat.le_of_ble_eq_true rfl) ?_
  refine q_aload_n (r := some h) C dX2_init_4 rfl (lv_at hl 0 rfl) ?_
  refine lv_bipush (v := 61) C.1 C.2.1 dX2_init_5 (by decide) ?_
  refine q_newB (k := 61) C hV wd_63 (by decide) (by decide) (by show _ ≤ (63 : Nat); omega) (by show _ ≤ (306 : Nat); omega) dX2_init_7 (fun q7 H hq7 hV => ?_)
  have hL_h7 : h ∈ (S.nB q7 61).L := List.mem_append_left _ hL_h
  have hK_h7 : (S.nB q7 61).K h = 2 := (va_up_ne _ _ (fun e : h = q7 => hq7 (e ▸ hL_h))).trans hK_h
  have loop : ∀ (k : Nat) (i : Int32) (j : Nat) (S' : qS) (H : Heap) (locs : List Loc) (ls : Array Slot), 61 + 1 - j < k → q_V E s S' H locs → lv_has ls 2 [(1, .int (i)), (0, va_rf (some h))] → i = nI j → j ≤ 61 → q_fr S S' q_c0 (fun _ x => x = h) q_c0 → q_mk S' h q7 j → W p l e ({ frames := 2, cells := 63, slots := 306, locals := 33 } : Room) s m [.ref h].toArray below meth c H locs (1 + j) (61 + 4 * j) (MQ below (va_Qv (post) (q_B E) E.A) [.ref h].toArray s (63) (306) E.A) (F0 m 15 ls []) := by
    intro k
    induction k with
    | zero => intro i j S' H locs ls hk; exact absurd hk (Nat.not_lt_zero _)
    | succ k ih =>
      intro i j S' H locs ls hk hV hl hi hj hf hm
      have hL_h := hm.1.1
      have hK_h := hm.1.2.1
      have hL_q7 := hm.2.1.1
      have hK_q7 := hm.2.1.2.1
      refine lv_iload_n C.1 C.2.1 dX2_init_15 rfl (lv_at hl 0 rfl) ?_
      refine q_aload_n (r := some h) C dX2_init_16 rfl (lv_at hl 1 rfl) ?_
      refine g_Shelves_small C hV hL_h hK_h (Or.inl wd_97) dX2_init_17 ?_
      refine q_tr (v' := some q7) (hm.1.2.2) ?_
      refine q_len7 C hV hL_q7 hK_q7 dX2_init_20 ?_
      refine q_ti (v' := nI 61) (by rw [hm.2.1.2.2]) ?_
      refine lv_icmp_ge (tgt := 46) C.1 C.2.1 dX2_init_21 (by decide) (fun c21 => ?_) (fun c21 => ?_)
      · have hj61 : j = 61 := by
          rcases Nat.lt_or_ge j 61 with h9 | h9
          · exact absurd (by rw [hi] at c21; exact c21) (nI_ge h9 (by omega))
          · omega
        refine q_aload_n (r := some h) C dX2_init_46 rfl (lv_at hl 1 rfl) ?_
        refine n_Tree C hV wd_86 (by show _ ≤ (63 : Nat); omega) (by show _ ≤ (306 : Nat); omega) dX2_init_47 (fun q47 H hq47 hV => ?_)
        refine lv_dup C.1 C.2.1 dX2_init_50 rfl ?_
        refine q_cv hV (q_rI (b := q47) (As := []) (rest := [va_rf (some q47), va_rf (some h)]) C hV (c_Tree_init l E (S'.nO q47 3) q47 (q_nO_in _ _ _) (q_nO_K _ _ _)) wd_90 (Or.inr ⟨_, wd_88⟩) wd_89 wd_40 rfl ok_X3_init ⟨rfl, rfl, Nat.le_of_ble_eq_true rfl, Nat.le_of_ble_eq_true rfl⟩ rfl hl.1 rfl (q_sm (q_1c (q_cat _) (q_1c (q_cat _) q_1n)) (Nat.le_of_ble_eq_true rfl)) dX2_init_51 ⟨by show _ ≤ (63 : Nat); omega, by show _ ≤ (306 : Nat); omega⟩) (fun S51 H locs hp51 hV => ?_)
        subst hp51
        have hL_h9 : h ∈ (S'.nO q47 3).L := List.mem_append_left _ hL_h
        have hK_h9 : (S'.nO q47 3).K h = 2 := (va_up_ne _ _ (fun e : h = q47 => hq47 (e ▸ hL_h))).trans hK_h
        refine p_Shelves_great (v := some q47) C hV hnm hL_h9 hK_h9 (wd_98) rfl dX2_init_54 (fun H locs hV => ?_)
        refine q_vret C hV hr hlk (by omega) (by omega) dX2_init_57 ?_
        exact hpost _ (q_shelved hf hm hq47 hj61 hq7)
      · have hj61 : j < 61 := by
          rcases Nat.lt_or_ge j 61 with h9 | h9
          · exact h9
          · exact absurd (by rw [hi]; exact nI_le h9 (by omega)) c21
        refine q_aload_n (r := some h) C dX2_init_24 rfl (lv_at hl 1 rfl) ?_
        refine g_Shelves_small C hV hL_h hK_h (Or.inl wd_97) dX2_init_25 ?_
        refine q_tr (v' := some q7) (hm.1.2.2) ?_
        refine lv_iload_n C.1 C.2.1 dX2_init_28 rfl (lv_at hl 0 rfl) ?_
        refine n_Row C hV wd_63 (by show _ ≤ (63 : Nat); omega) (by show _ ≤ (306 : Nat); omega) dX2_init_29 (fun q29 H hq29 hV => ?_)
        have ne9 : ∀ a ∈ S'.L, a ≠ q29 := fun a ha e => hq29 (e ▸ ha)
        have hL_ar9 : q7 ∈ ((S'.nO q29 1).sI 4 q29 (nI (j + 3))).L := List.mem_append_left _ hm.2.1.1
        have hK_ar9 : ((S'.nO q29 1).sI 4 q29 (nI (j + 3))).K q7 = 7 := (va_up_ne _ _ (ne9 q7 hm.2.1.1)).trans hm.2.1.2.1
        have hL_q29 : q29 ∈ ((S'.nO q29 1).sI 4 q29 (nI (j + 3))).L := q_nO_in S' q29 1
        have hK_q29 : ((S'.nO q29 1).sI 4 q29 (nI (j + 3))).K q29 = 1 := q_nO_K S' q29 1
        have hNar9 : ((S'.nO q29 1).sI 4 q29 (nI (j + 3))).N q7 = 61 := hm.2.1.2.2
        have hN_q79 : ((S'.nO q29 1).sI 4 q29 (nI (j + 3))).N q7 < 2 ^ 31 := by rw [hNar9]; decide
        refine lv_dup C.1 C.2.1 dX2_init_32 rfl ?_
        refine lv_iconst (v := 3) C.1 C.2.1 dX2_init_33 (by decide) ?_
        refine lv_iload_n C.1 C.2.1 dX2_init_34 rfl (lv_at hl 0 rfl) ?_
        refine lv_iadd C.1 C.2.1 dX2_init_35 ?_
        refine q_ti (v' := nI (j + 3)) (by rw [hi, show (3 : Int32) = nI 3 by decide, nI_add, Nat.add_comm]) ?_
        refine q_cv hV (q_rI (b := q29) (As := [.int (nI (j + 3))]) (rest := [va_rf (some q29), .int (i), va_rf (some q7)]) C hV (c_Row_init l E (S'.nO q29 1) q29 (nI (j + 3)) (q_nO_in _ _ _) (q_nO_K _ _ _)) wd_68 (Or.inr ⟨_, wd_66⟩) wd_67 wd_39 rfl ok_X1_init ⟨rfl, rfl, Nat.le_of_ble_eq_true rfl, Nat.le_of_ble_eq_true rfl⟩ rfl hl.1 rfl (q_sm (q_1c (q_cat _) (q_1c rfl (q_1c (q_cat _) q_1n))) (Nat.le_of_ble_eq_true rfl)) dX2_init_36 ⟨by show _ ≤ (63 : Nat); omega, by show _ ≤ (306 : Nat); omega⟩) (fun S36 H locs hp36 hV => ?_)
        subst hp36
        refine q_aast (j := j) C hV hL_ar9 hK_ar9 hL_q29 hK_q29 (hi) (by rw [hNar9]; exact hj61) (hN_q79) dX2_init_39 (fun H locs hV => ?_)
        obtain ⟨i40, e40⟩ : ∃ y : Int32, y = i + 1 := ⟨_, rfl⟩
        refine q_iinc (v := i40) (k := 0) (lv' := [(1, .int (i40)), (0, va_rf (some h))]) C dX2_init_40 hl rfl (by rw [e40]; rfl) (by decide) (q_k0 (q_kC 1 rfl (by decide) (q_cat _) q_kz)) (fun ls hl => ?_)
        refine lv_goto (tgt := 15) C.1 C.2.1 dX2_init_43 (by decide) ?_
        refine W.cs (cells' := 1 + (j + 1)) (slots' := 61 + 4 * (j + 1)) (by omega) (by omega) ?_
        exact ih i40 (j + 1) _ H locs ls (by omega) hV hl (by rw [e40, hi]; exact nI_1 j) (by omega) (q_fr_mk hf hq29 hq7) (q_mk_step hm hq29)
  refine p_Shelves_small (v := some q7) C hV hnm hL_h7 hK_h7 (wd_97) rfl dX2_init_10 (fun H locs hV => ?_)
  refine lv_iconst (v := 0) C.1 C.2.1 dX2_init_13 (by decide) ?_
  refine q_istore_n (x := 0) (lv' := [(1, .int (0)), (0, va_rf (some h))]) C dX2_init_14 rfl hl (by decide) (q_k0 (q_kC 0 rfl (by decide) (q_cat _) q_kz)) (fun ls hl => ?_)
  refine W.cs (cells' := 1 + 0) (slots' := 61 + 4 * 0) (by omega) (by omega) ?_
  exact loop (61 + 2) 0 0 _ H locs ls (by omega) hV hl nI_0.symm (by omega) (q_fr_tr (q_fr_nB hq7) (q_fr_sR rfl)) ⟨⟨hL_h7, hK_h7, qR_self _ _ _ _⟩, ⟨List.mem_append_right _ (List.mem_singleton.mpr rfl), va_up_self _ _ _, va_up_self _ _ _⟩, fun k9 h9 => absurd h9 (Nat.not_lt_zero _)⟩
theorem c_Shelves_init (l : Launch) (E : qE) (S : qS) (h : Nat) (hL_h : h ∈ S.L) (hK_h : S.K h = 2) : q_Mv l yX2_init cX2_init 2 { frames := 2, cells := 63, slots := 306, locals := 33 } E [.ref h] S (fun S1 => ∃ ar t, q_sh S1 h ar t [] (fun _ => []) ∧ q_fr S S1 q_c0 (fun _ x => x = h) q_c0 ∧ ar ∉ S.L ∧ t ∉ S.L) 63 306 := c0_Shelves_init l E S h hL_h hK_h _ (fun _ h => h)
end
section
/-! THE PIECES in their order: address of the object, cells, free or not, the time -/
abbrev q_X : Type := Nat × Nat × Bool × Nat
def q_sz : List q_X → Nat
  | [] => 0
  | x :: P => x.2.1 + q_sz P
def q_fl (b : Bool) : Int32 := if b then 1 else 0
def q_pok (S : qS) (a : Nat) (x : q_X) : Prop := x.1 ∈ S.L ∧ S.K x.1 = 0 ∧ S.I 0 x.1 = nI a ∧ S.I 1 x.1 = nI x.2.1 ∧ S.I 2 x.1 = q_fl x.2.2.1 ∧ (x.2.2.1 = true → S.J 0 x.1 = lN (x.2.2.2 + 1))
def q_pcs (S : qS) : Nat → List q_X → Prop
  | _, [] => True
  | a, x :: P => q_pok S a x ∧ q_pcs S (a + x.2.1) P
abbrev q_ad (P : List q_X) : List Nat := P.map (fun x => x.1)
abbrev q_vl (P : List q_X) : List (Nat × Bool × Nat) := P.map (fun x => x.2)
def q_line (S : qS) (c n : Nat) (P : List q_X) : Prop := c ∈ S.L ∧ S.K c = 4 ∧ S.I 5 c = nI n ∧ q_ch (S.R 0) (S.R 9 c) (q_ad P) ∧ q_pcs S 1 P ∧ q_sz P = n ∧ n ≤ 16384 ∧ (∀ x ∈ P, 1 ≤ x.2.1)
theorem q_sz_app (A B : List q_X) : q_sz (A ++ B) = q_sz A + q_sz B := by
  induction A with
  | nil => simp [q_sz]
  | cons x A ih => simp only [List.cons_append, q_sz, ih]; omega
theorem q_pcs_app {S : qS} : ∀ {A B : List q_X} {a : Nat}, q_pcs S a (A ++ B) ↔ q_pcs S a A ∧ q_pcs S (a + q_sz A) B := by
  intro A
  induction A with
  | nil => intro B a; simp [q_pcs, q_sz]
  | cons x A ih =>
    intro B a
    simp only [List.cons_append, q_pcs, q_sz, ih, and_assoc, Nat.add_assoc]
theorem q_pcs_mem {S : qS} : ∀ {P : List q_X} {a : Nat} {x : q_X}, q_pcs S a P → x ∈ P → ∃ b, q_pok S b x := by
  intro P
  induction P with
  | nil => intro a x _ h; cases h
  | cons y P ih =>
    intro a x h hx
    rcases List.mem_cons.mp hx with e | hx
    · subst e; exact ⟨a, h.1⟩
    · exact ih h.2 hx
theorem q_sz_mem : ∀ {P : List q_X} {x : q_X}, x ∈ P → x.2.1 ≤ q_sz P := by
  intro P
  induction P with
  | nil => intro x h; cases h
  | cons y P ih =>
    intro x hx
    rcases List.mem_cons.mp hx with e | hx
    · subst e; simp only [q_sz]; omega
    · have := ih hx; simp only [q_sz]; omega
theorem q_line_len {S : qS} {c n : Nat} {P : List q_X} (h : q_line S c n P) : P.length ≤ n := by
  obtain ⟨-, -, -, -, -, h1, -, h2⟩ := h
  rw [← h1]
  clear h1
  induction P with
  | nil => simp
  | cons x P ih =>
    have h3 := h2 x List.mem_cons_self
    have h4 := ih (fun y hy => h2 y (List.mem_cons_of_mem _ hy))
    simp only [List.length_cons, q_sz]
    omega
theorem q_fl0 {b : Bool} : q_fl b = 0 ↔ b = false := by cases b <;> simp [q_fl]
/-! counting over the values -/
def q_cn (f : Nat × Bool × Nat → Nat) : List (Nat × Bool × Nat) → Nat
  | [] => 0
  | v :: V => f v + q_cn f V
theorem q_cn_le {f : Nat × Bool × Nat → Nat} : ∀ {P : List q_X}, (∀ x ∈ P, f x.2 ≤ x.2.1) → q_cn f (q_vl P) ≤ q_sz P := by
  intro P
  induction P with
  | nil => intro _; simp [q_cn, q_sz]
  | cons x P ih =>
    intro h
    have h1 := h x List.mem_cons_self
    have h2 := ih (fun y hy => h y (List.mem_cons_of_mem _ hy))
    simp only [q_vl, List.map_cons, q_cn, q_sz] at h2 ⊢
    omega
def q_mx : List (Nat × Bool × Nat) → Nat
  | [] => 0
  | v :: V => max (if v.2.1 then v.1 else 0) (q_mx V)
def q_f0 (v : Nat × Bool × Nat) : Nat := if v.2.1 = true then v.1 else 0
def q_f1 (v : Nat × Bool × Nat) : Nat := if v.2.1 = true ∧ v.1 < 3 then v.1 else 0
def q_f2 (v : Nat × Bool × Nat) : Nat := if v.2.1 = true then 0 else 1
def q_f3 (v : Nat × Bool × Nat) : Nat := if v.2.1 = true ∧ 3 ≤ v.1 then 1 else 0
def q_f4 (v : Nat × Bool × Nat) : Nat := if v.2.1 = true ∧ v.1 < 3 then 1 else 0
end
section
set_option maxHeartbeats 4000000 in
set_option maxRecDepth 100000 in
theorem c0_Shelf_freeCells (l : Launch) (E : qE) (S : qS) (c9 n9 : Nat) (P9 : List q_X) (hln : q_line S c9 n9 P9) (post : Int32 → qS → Prop) (hpost : ∀ r S1, (S1 = S ∧ r = nI (q_cn q_f0 (q_vl P9))) → post r S1) : q_Mi l yX4_freeCells cX4_freeCells 3 .int { frames := 0, cells := 0, slots := 0, locals := 0 } E [.ref c9] S (post) 0 0 := by
  refine q_ofW1 (by decide) (q_1c rfl q_1n) (Nat.le_of_ble_eq_true rfl) (fun p e s m below meth c C hV hr hlk hnm ls hl => ?_)
  have hl : lv_has ls 3 [(0, va_rf (some c9))] := hl
  obtain ⟨hL_c9, hK_c9, hn9, hch9, hpc9, hsz9, hle9, hpos9⟩ := id hln
  have loop : ∀ (k : Nat) (ac : Int32) (pp : Option Nat) (k9 : Nat) (R : List q_X) (a9 : Nat) (ls : Array Slot), R.length < k → lv_has ls 3 [(2, va_rf (pp)), (1, .int (ac)), (0, va_rf (some c9))] → q_ch (S.R 0) pp (q_ad R) → q_pcs S a9 R → ac = nI k9 → k9 + q_cn q_f0 (q_vl R) = q_cn q_f0 (q_vl P9) → (∀ x ∈ R, x ∈ P9) → W p l e ({ frames := 0, cells := 0, slots := 0, locals := 0 } : Room) s m [.ref c9].toArray below meth c s.heap [] (0) (0) (MQ below (va_Qi (post) (q_B E) E.A) [.ref c9].toArray s (0) (0) E.A) (F0 m 7 ls []) := by
    intro k
    induction k with
    | zero => intro ac pp k9 R a9 ls hk; exact absurd hk (Nat.not_lt_zero _)
    | succ k ih =>
      intro ac pp k9 R a9 ls hk hl hch hpc hac hcn hmem
      refine q_aload_n (r := pp) C dX4_freeCells_7 rfl (lv_at hl 0 rfl) ?_
      refine q_ifnull (r := pp) (tgt := 37) C dX4_freeCells_8 (by decide) (fun c8 => ?_) (fun x8 c8 => ?_)
      · subst c8
        refine lv_iload_n C.1 C.2.1 dX4_freeCells_37 rfl (lv_at hl 1 rfl) ?_
        refine q_iret (v := ac) C hV hr hlk (Nat.le_of_ble_eq_true rfl) (Nat.le_of_ble_eq_true rfl) dX4_freeCells_38 ?_
        have hR : R = [] := by cases R with | nil => rfl | cons y t => exact nomatch hch.1
        subst hR
        refine hpost _ _ ⟨rfl, ?_⟩
        rw [hac, ← hcn]
        rfl
      · subst c8
        obtain ⟨y, R9, rfl, hy, hch2⟩ : ∃ y R9, R = y :: R9 ∧ y.1 = x8 ∧ q_ch (S.R 0) (S.R 0 x8) (q_ad R9) := by
          cases R with
          | nil => exact nomatch (show some x8 = none from hch)
          | cons y t => have e := Option.some.inj hch.1; exact ⟨y, t, rfl, e.symm, by have h2 := hch.2; rw [← e] at h2; exact h2⟩
        subst hy
        have hpc2 := hpc
        obtain ⟨hL_y, hK_y, hAt, hCe, hFr, -⟩ := hpc.1
        have hy1 := q_sz_mem (hmem y List.mem_cons_self)
        have hyp := hpos9 y (hmem y List.mem_cons_self)
        refine lv_iload_n C.1 C.2.1 dX4_freeCells_11 rfl (lv_at hl 1 rfl) ?_
        refine q_aload_n (r := some y.1) C dX4_freeCells_12 rfl (lv_at hl 0 rfl) ?_
        refine g_Piece_isFree C hV hL_y hK_y (Or.inr ⟨_, wd_127⟩) dX4_freeCells_13 ?_
        refine q_ti (v' := q_fl y.2.2.1) (hFr) ?_
        refine lv_if_eq (tgt := 26) C.1 C.2.1 dX4_freeCells_16 (by decide) (fun c16 => ?_) (fun c16 => ?_)
        · refine lv_iconst (v := 0) C.1 C.2.1 dX4_freeCells_26 (by decide) ?_
          refine lv_iadd C.1 C.2.1 dX4_freeCells_27 ?_
          refine q_istore_n (x := ac + 0) (lv' := [(1, .int (ac + 0)), (2, va_rf (some y.1)), (0, va_rf (some c9))]) C dX4_freeCells_28 rfl hl (by decide) (q_k0 (q_kN 0 rfl (by decide) (by decide) (q_kC 2 rfl (by decide) (q_cat _) q_kz))) (fun ls hl => ?_)
          refine q_aload_n (r := some y.1) C dX4_freeCells_29 rfl (lv_at hl 1 rfl) ?_
          refine g_Piece_behind C hV hL_y hK_y (Or.inr ⟨_, wd_131⟩) dX4_freeCells_30 ?_
          refine q_nr (fun r30 h30 => ?_)
          refine q_astore_n (r := r30) (lv' := [(2, va_rf (r30)), (1, .int (ac + 0)), (0, va_rf (some c9))]) C dX4_freeCells_33 rfl hl (by decide) (q_k0 (q_kC 0 rfl (by decide) rfl (q_kN 2 rfl (by decide) (by decide) q_kz))) (fun ls hl => ?_)
          refine lv_goto (tgt := 7) C.1 C.2.1 dX4_freeCells_34 (by decide) ?_
          subst h30
          refine ih _ (S.R 0 y.1) (k9 + q_f0 y.2) R9 (a9 + y.2.1) ls (by simp at hk; omega) hl hch2 hpc2.2 ?_ (by have hcn2 : k9 + (q_f0 y.2 + q_cn q_f0 (q_vl R9)) = q_cn q_f0 (q_vl P9) := hcn; omega) (fun x hx => hmem x (List.mem_cons_of_mem _ hx))
          have hfv : q_f0 y.2 = 0 := (if_neg (by rw [q_fl0.mp c16]; decide))
          rw [hfv, hac]
          exact (by rw [Nat.add_zero]; exact Int32.add_zero _)
        · refine q_aload_n (r := some y.1) C dX4_freeCells_19 rfl (lv_at hl 0 rfl) ?_
          refine g_Piece_cells C hV hL_y hK_y (Or.inr ⟨_, wd_124⟩) dX4_freeCells_20 ?_
          refine q_ti (v' := nI y.2.1) (hCe) ?_
          refine lv_goto (tgt := 27) C.1 C.2.1 dX4_freeCells_23 (by decide) ?_
          refine lv_iadd C.1 C.2.1 dX4_freeCells_27 ?_
          refine q_istore_n (x := ac + (nI y.2.1)) (lv' := [(1, .int (ac + (nI y.2.1))), (2, va_rf (some y.1)), (0, va_rf (some c9))]) C dX4_freeCells_28 rfl hl (by decide) (q_k0 (q_kN 0 rfl (by decide) (by decide) (q_kC 2 rfl (by decide) (q_cat _) q_kz))) (fun ls hl => ?_)
          refine q_aload_n (r := some y.1) C dX4_freeCells_29 rfl (lv_at hl 1 rfl) ?_
          refine g_Piece_behind C hV hL_y hK_y (Or.inr ⟨_, wd_131⟩) dX4_freeCells_30 ?_
          refine q_nr (fun r30 h30 => ?_)
          refine q_astore_n (r := r30) (lv' := [(2, va_rf (r30)), (1, .int (ac + (nI y.2.1))), (0, va_rf (some c9))]) C dX4_freeCells_33 rfl hl (by decide) (q_k0 (q_kC 0 rfl (by decide) rfl (q_kN 2 rfl (by decide) (by decide) q_kz))) (fun ls hl => ?_)
          refine lv_goto (tgt := 7) C.1 C.2.1 dX4_freeCells_34 (by decide) ?_
          subst h30
          refine ih _ (S.R 0 y.1) (k9 + q_f0 y.2) R9 (a9 + y.2.1) ls (by simp at hk; omega) hl hch2 hpc2.2 ?_ (by have hcn2 : k9 + (q_f0 y.2 + q_cn q_f0 (q_vl R9)) = q_cn q_f0 (q_vl P9) := hcn; omega) (fun x hx => hmem x (List.mem_cons_of_mem _ hx))
          have hfv : q_f0 y.2 = y.2.1 := (if_pos (by cases hbb : y.2.2.1 with | true => rfl | false => exact absurd (show q_fl y.2.2.1 = 0 by rw [hbb]; rfl) c16))
          rw [hfv, hac]
          exact nI_add k9 y.2.1
  refine lv_iconst (v := 0) C.1 C.2.1 dX4_freeCells_0 (by decide) ?_
  refine q_istore_n (x := 0) (lv' := [(1, .int (0)), (0, va_rf (some c9))]) C dX4_freeCells_1 rfl hl (by decide) (q_k0 (q_kC 0 rfl (by decide) (q_cat _) q_kz)) (fun ls hl => ?_)
  refine q_aload_n (r := some c9) C dX4_freeCells_2 rfl (lv_at hl 1 rfl) ?_
  refine g_Shelf_lowest C hV hL_c9 hK_c9 (Or.inl wd_178) dX4_freeCells_3 ?_
  refine q_nr (fun r3 h3 => ?_)
  refine q_astore_n (r := r3) (lv' := [(2, va_rf (r3)), (1, .int (0)), (0, va_rf (some c9))]) C dX4_freeCells_6 rfl hl (by decide) (q_k0 (q_kC 0 rfl (by decide) rfl (q_kN 1 rfl (by decide) (by decide) q_kz))) (fun ls hl => ?_)
  exact loop (P9.length + 1) 0 r3 0 P9 1 ls (Nat.lt_succ_self _) hl (by rw [h3]; exact hch9) hpc9 nI_0.symm (Nat.zero_add _) (fun x hx => hx)
theorem c_Shelf_freeCells (l : Launch) (E : qE) (S : qS) (c9 n9 : Nat) (P9 : List q_X) (hln : q_line S c9 n9 P9) : q_Mi l yX4_freeCells cX4_freeCells 3 .int { frames := 0, cells := 0, slots := 0, locals := 0 } E [.ref c9] S (fun r S1 => S1 = S ∧ r = nI (q_cn q_f0 (q_vl P9))) 0 0 := c0_Shelf_freeCells l E S c9 n9 P9 hln _ (fun _ _ h => h)

set_option maxHeartbeats 4000000 in
set_option maxRecDepth 100000 in
theorem c0_Shelf_crumbCells (l : Launch) (E : qE) (S : qS) (c9 n9 : Nat) (P9 : List q_X) (hln : q_line S c9 n9 P9) (post : Int32 → qS → Prop) (hpost : ∀ r S1, (S1 = S ∧ r = nI (q_cn q_f1 (q_vl P9))) → post r S1) : q_Mi l yX4_crumbCells cX4_crumbCells 3 .int { frames := 1, cells := 0, slots := 0, locals := 20 } E [.ref c9] S (post) 0 0 := by
  refine q_ofW1 (by decide) (q_1c rfl q_1n) (Nat.le_of_ble_eq_true rfl) (fun p e s m below meth c C hV hr hlk hnm ls hl => ?_)
  have hl : lv_has ls 3 [(0, va_rf (some c9))] := hl
  obtain ⟨hL_c9, hK_c9, hn9, hch9, hpc9, hsz9, hle9, hpos9⟩ := id hln
  have loop : ∀ (k : Nat) (ac : Int32) (pp : Option Nat) (k9 : Nat) (R : List q_X) (a9 : Nat) (H : Heap) (locs : List Loc) (ls : Array Slot), R.length < k → q_V E s S H locs → lv_has ls 3 [(2, va_rf (pp)), (1, .int (ac)), (0, va_rf (some c9))] → q_ch (S.R 0) pp (q_ad R) → q_pcs S a9 R → ac = nI k9 → k9 + q_cn q_f1 (q_vl R) = q_cn q_f1 (q_vl P9) → (∀ x ∈ R, x ∈ P9) → W p l e ({ frames := 1, cells := 0, slots := 0, locals := 20 } : Room) s m [.ref c9].toArray below meth c H locs (0) (0) (MQ below (va_Qi (post) (q_B E) E.A) [.ref c9].toArray s (0) (0) E.A) (F0 m 7 ls []) := by
    intro k
    induction k with
    | zero => intro ac pp k9 R a9 H locs ls hk; exact absurd hk (Nat.not_lt_zero _)
    | succ k ih =>
      intro ac pp k9 R a9 H locs ls hk hV hl hch hpc hac hcn hmem
      refine q_aload_n (r := pp) C dX4_crumbCells_7 rfl (lv_at hl 0 rfl) ?_
      refine q_ifnull (r := pp) (tgt := 37) C dX4_crumbCells_8 (by decide) (fun c8 => ?_) (fun x8 c8 => ?_)
      · subst c8
        refine lv_iload_n C.1 C.2.1 dX4_crumbCells_37 rfl (lv_at hl 1 rfl) ?_
        refine q_iret (v := ac) C hV hr hlk (Nat.le_of_ble_eq_true rfl) (Nat.le_of_ble_eq_true rfl) dX4_crumbCells_38 ?_
        have hR : R = [] := by cases R with | nil => rfl | cons y t => exact nomatch hch.1
        subst hR
        refine hpost _ _ ⟨rfl, ?_⟩
        rw [hac, ← hcn]
        rfl
      · subst c8
        obtain ⟨y, R9, rfl, hy, hch2⟩ : ∃ y R9, R = y :: R9 ∧ y.1 = x8 ∧ q_ch (S.R 0) (S.R 0 x8) (q_ad R9) := by
          cases R with
          | nil => exact nomatch (show some x8 = none from hch)
          | cons y t => have e := Option.some.inj hch.1; exact ⟨y, t, rfl, e.symm, by have h2 := hch.2; rw [← e] at h2; exact h2⟩
        subst hy
        have hpc2 := hpc
        obtain ⟨hL_y, hK_y, hAt, hCe, hFr, -⟩ := hpc.1
        have hy1 := q_sz_mem (hmem y List.mem_cons_self)
        have hyp := hpos9 y (hmem y List.mem_cons_self)
        refine lv_iload_n C.1 C.2.1 dX4_crumbCells_11 rfl (lv_at hl 1 rfl) ?_
        refine q_aload_n (r := some y.1) C dX4_crumbCells_12 rfl (lv_at hl 0 rfl) ?_
        refine q_ci hV (q_rN (b := y.1) (As := []) (rest := [.int (ac)]) C hV (c_Piece_isCrumb l E S y.1 hL_y hK_y) wd_423 wd_420 wd_422 wd_24 wd_41 ok_X0_isCrumb ⟨rfl, rfl, Nat.le_of_ble_eq_true rfl, Nat.le_of_ble_eq_true rfl⟩ (q_rc0 hV hL_y hK_y) rfl hl.1 rfl (q_sm (q_1c rfl q_1n) (Nat.le_of_ble_eq_true rfl)) dX4_crumbCells_13 ⟨Nat.le_of_ble_eq_true rfl, Nat.le_of_ble_eq_true rfl⟩) (fun i13 S13 H locs hp13 hV => ?_)
        obtain ⟨eS13, hp13⟩ := hp13
        rw [eS13] at hV
        refine lv_if_eq (tgt := 26) C.1 C.2.1 dX4_crumbCells_16 (by decide) (fun c16 => ?_) (fun c16 => ?_)
        · have hiff : (¬ S.I 2 y.1 = 0 ∧ S.I 1 y.1 < 3) ↔ (y.2.2.1 = true ∧ y.2.1 < 3) := by
            rw [hFr, hCe, q_fl0]
            have h3 : (3 : Int32) = nI 3 := by decide
            rw [h3, nI_ltI (by omega) (by omega)]
            cases y.2.2.1 <;> simp
          have hcnd : ¬ (y.2.2.1 = true ∧ y.2.1 < 3) := fun h9 => by rw [if_pos (hiff.mpr h9)] at hp13; rw [hp13] at c16; exact absurd c16 (by decide)
          refine lv_iconst (v := 0) C.1 C.2.1 dX4_crumbCells_26 (by decide) ?_
          refine lv_iadd C.1 C.2.1 dX4_crumbCells_27 ?_
          refine q_istore_n (x := ac + 0) (lv' := [(1, .int (ac + 0)), (2, va_rf (some y.1)), (0, va_rf (some c9))]) C dX4_crumbCells_28 rfl hl (by decide) (q_k0 (q_kN 0 rfl (by decide) (by decide) (q_kC 2 rfl (by decide) (q_cat _) q_kz))) (fun ls hl => ?_)
          refine q_aload_n (r := some y.1) C dX4_crumbCells_29 rfl (lv_at hl 1 rfl) ?_
          refine g_Piece_behind C hV hL_y hK_y (Or.inr ⟨_, wd_131⟩) dX4_crumbCells_30 ?_
          refine q_nr (fun r30 h30 => ?_)
          refine q_astore_n (r := r30) (lv' := [(2, va_rf (r30)), (1, .int (ac + 0)), (0, va_rf (some c9))]) C dX4_crumbCells_33 rfl hl (by decide) (q_k0 (q_kC 0 rfl (by decide) rfl (q_kN 2 rfl (by decide) (by decide) q_kz))) (fun ls hl => ?_)
          refine lv_goto (tgt := 7) C.1 C.2.1 dX4_crumbCells_34 (by decide) ?_
          subst h30
          refine ih _ (S.R 0 y.1) (k9 + q_f1 y.2) R9 (a9 + y.2.1) H locs ls (by simp at hk; omega) hV hl hch2 hpc2.2 ?_ (by have hcn2 : k9 + (q_f1 y.2 + q_cn q_f1 (q_vl R9)) = q_cn q_f1 (q_vl P9) := hcn; omega) (fun x hx => hmem x (List.mem_cons_of_mem _ hx))
          have hfv : q_f1 y.2 = 0 := (if_neg hcnd)
          rw [hfv, hac]
          exact (by rw [Nat.add_zero]; exact Int32.add_zero _)
        · have hiff : (¬ S.I 2 y.1 = 0 ∧ S.I 1 y.1 < 3) ↔ (y.2.2.1 = true ∧ y.2.1 < 3) := by
            rw [hFr, hCe, q_fl0]
            have h3 : (3 : Int32) = nI 3 := by decide
            rw [h3, nI_ltI (by omega) (by omega)]
            cases y.2.2.1 <;> simp
          have hcnd : y.2.2.1 = true ∧ y.2.1 < 3 := by
            rcases Classical.em (y.2.2.1 = true ∧ y.2.1 < 3) with h9 | h9
            · exact h9
            · rw [if_neg (fun h8 => h9 (hiff.mp h8))] at hp13; exact absurd hp13 c16
          refine q_aload_n (r := some y.1) C dX4_crumbCells_19 rfl (lv_at hl 0 rfl) ?_
          refine g_Piece_cells C hV hL_y hK_y (Or.inr ⟨_, wd_124⟩) dX4_crumbCells_20 ?_
          refine q_ti (v' := nI y.2.1) (hCe) ?_
          refine lv_goto (tgt := 27) C.1 C.2.1 dX4_crumbCells_23 (by decide) ?_
          refine lv_iadd C.1 C.2.1 dX4_crumbCells_27 ?_
          refine q_istore_n (x := ac + (nI y.2.1)) (lv' := [(1, .int (ac + (nI y.2.1))), (2, va_rf (some y.1)), (0, va_rf (some c9))]) C dX4_crumbCells_28 rfl hl (by decide) (q_k0 (q_kN 0 rfl (by decide) (by decide) (q_kC 2 rfl (by decide) (q_cat _) q_kz))) (fun ls hl => ?_)
          refine q_aload_n (r := some y.1) C dX4_crumbCells_29 rfl (lv_at hl 1 rfl) ?_
          refine g_Piece_behind C hV hL_y hK_y (Or.inr ⟨_, wd_131⟩) dX4_crumbCells_30 ?_
          refine q_nr (fun r30 h30 => ?_)
          refine q_astore_n (r := r30) (lv' := [(2, va_rf (r30)), (1, .int (ac + (nI y.2.1))), (0, va_rf (some c9))]) C dX4_crumbCells_33 rfl hl (by decide) (q_k0 (q_kC 0 rfl (by decide) rfl (q_kN 2 rfl (by decide) (by decide) q_kz))) (fun ls hl => ?_)
          refine lv_goto (tgt := 7) C.1 C.2.1 dX4_crumbCells_34 (by decide) ?_
          subst h30
          refine ih _ (S.R 0 y.1) (k9 + q_f1 y.2) R9 (a9 + y.2.1) H locs ls (by simp at hk; omega) hV hl hch2 hpc2.2 ?_ (by have hcn2 : k9 + (q_f1 y.2 + q_cn q_f1 (q_vl R9)) = q_cn q_f1 (q_vl P9) := hcn; omega) (fun x hx => hmem x (List.mem_cons_of_mem _ hx))
          have hfv : q_f1 y.2 = y.2.1 := (if_pos hcnd)
          rw [hfv, hac]
          exact nI_add k9 y.2.1
  refine lv_iconst (v := 0) C.1 C.2.1 dX4_crumbCells_0 (by decide) ?_
  refine q_istore_n (x := 0) (lv' := [(1, .int (0)), (0, va_rf (some c9))]) C dX4_crumbCells_1 rfl hl (by decide) (q_k0 (q_kC 0 rfl (by decide) (q_cat _) q_kz)) (fun ls hl => ?_)
  refine q_aload_n (r := some c9) C dX4_crumbCells_2 rfl (lv_at hl 1 rfl) ?_
  refine g_Shelf_lowest C hV hL_c9 hK_c9 (Or.inl wd_178) dX4_crumbCells_3 ?_
  refine q_nr (fun r3 h3 => ?_)
  refine q_astore_n (r := r3) (lv' := [(2, va_rf (r3)), (1, .int (0)), (0, va_rf (some c9))]) C dX4_crumbCells_6 rfl hl (by decide) (q_k0 (q_kC 0 rfl (by decide) rfl (q_kN 1 rfl (by decide) (by decide) q_kz))) (fun ls hl => ?_)
  exact loop (P9.length + 1) 0 r3 0 P9 1 s.heap [] ls (Nat.lt_succ_self _) hV hl (by rw [h3]; exact hch9) hpc9 nI_0.symm (Nat.zero_add _) (fun x hx => hx)
theorem c_Shelf_crumbCells (l : Launch) (E : qE) (S : qS) (c9 n9 : Nat) (P9 : List q_X) (hln : q_line S c9 n9 P9) : q_Mi l yX4_crumbCells cX4_crumbCells 3 .int { frames := 1, cells := 0, slots := 0, locals := 20 } E [.ref c9] S (fun r S1 => S1 = S ∧ r = nI (q_cn q_f1 (q_vl P9))) 0 0 := c0_Shelf_crumbCells l E S c9 n9 P9 hln _ (fun _ _ h => h)

set_option maxHeartbeats 4000000 in
set_option maxRecDepth 100000 in
theorem c0_Shelf_usedPieces (l : Launch) (E : qE) (S : qS) (c9 n9 : Nat) (P9 : List q_X) (hln : q_line S c9 n9 P9) (post : Int32 → qS → Prop) (hpost : ∀ r S1, (S1 = S ∧ r = nI (q_cn q_f2 (q_vl P9))) → post r S1) : q_Mi l yX4_usedPieces cX4_usedPieces 3 .int { frames := 0, cells := 0, slots := 0, locals := 0 } E [.ref c9] S (post) 0 0 := by
  refine q_ofW1 (by decide) (q_1c rfl q_1n) (Nat.le_of_ble_eq_true rfl) (fun p e s m below meth c C hV hr hlk hnm ls hl => ?_)
  have hl : lv_has ls 3 [(0, va_rf (some c9))] := hl
  obtain ⟨hL_c9, hK_c9, hn9, hch9, hpc9, hsz9, hle9, hpos9⟩ := id hln
  have loop : ∀ (k : Nat) (ac : Int32) (pp : Option Nat) (k9 : Nat) (R : List q_X) (a9 : Nat) (ls : Array Slot), R.length < k → lv_has ls 3 [(2, va_rf (pp)), (1, .int (ac)), (0, va_rf (some c9))] → q_ch (S.R 0) pp (q_ad R) → q_pcs S a9 R → ac = nI k9 → k9 + q_cn q_f2 (q_vl R) = q_cn q_f2 (q_vl P9) → (∀ x ∈ R, x ∈ P9) → W p l e ({ frames := 0, cells := 0, slots := 0, locals := 0 } : Room) s m [.ref c9].toArray below meth c s.heap [] (0) (0) (MQ below (va_Qi (post) (q_B E) E.A) [.ref c9].toArray s (0) (0) E.A) (F0 m 7 ls []) := by
    intro k
    induction k with
    | zero => intro ac pp k9 R a9 ls hk; exact absurd hk (Nat.not_lt_zero _)
    | succ k ih =>
      intro ac pp k9 R a9 ls hk hl hch hpc hac hcn hmem
      refine q_aload_n (r := pp) C dX4_usedPieces_7 rfl (lv_at hl 0 rfl) ?_
      refine q_ifnull (r := pp) (tgt := 34) C dX4_usedPieces_8 (by decide) (fun c8 => ?_) (fun x8 c8 => ?_)
      · subst c8
        refine lv_iload_n C.1 C.2.1 dX4_usedPieces_34 rfl (lv_at hl 1 rfl) ?_
        refine q_iret (v := ac) C hV hr hlk (Nat.le_of_ble_eq_true rfl) (Nat.le_of_ble_eq_true rfl) dX4_usedPieces_35 ?_
        have hR : R = [] := by cases R with | nil => rfl | cons y t => exact nomatch hch.1
        subst hR
        refine hpost _ _ ⟨rfl, ?_⟩
        rw [hac, ← hcn]
        rfl
      · subst c8
        obtain ⟨y, R9, rfl, hy, hch2⟩ : ∃ y R9, R = y :: R9 ∧ y.1 = x8 ∧ q_ch (S.R 0) (S.R 0 x8) (q_ad R9) := by
          cases R with
          | nil => exact nomatch (show some x8 = none from hch)
          | cons y t => have e := Option.some.inj hch.1; exact ⟨y, t, rfl, e.symm, by have h2 := hch.2; rw [← e] at h2; exact h2⟩
        subst hy
        have hpc2 := hpc
        obtain ⟨hL_y, hK_y, hAt, hCe, hFr, -⟩ := hpc.1
        have hy1 := q_sz_mem (hmem y List.mem_cons_self)
        have hyp := hpos9 y (hmem y List.mem_cons_self)
        refine lv_iload_n C.1 C.2.1 dX4_usedPieces_11 rfl (lv_at hl 1 rfl) ?_
        refine q_aload_n (r := some y.1) C dX4_usedPieces_12 rfl (lv_at hl 0 rfl) ?_
        refine g_Piece_isFree C hV hL_y hK_y (Or.inr ⟨_, wd_127⟩) dX4_usedPieces_13 ?_
        refine q_ti (v' := q_fl y.2.2.1) (hFr) ?_
        refine lv_if_eq (tgt := 23) C.1 C.2.1 dX4_usedPieces_16 (by decide) (fun c16 => ?_) (fun c16 => ?_)
        · refine lv_iconst (v := 1) C.1 C.2.1 dX4_usedPieces_23 (by decide) ?_
          refine lv_iadd C.1 C.2.1 dX4_usedPieces_24 ?_
          refine q_istore_n (x := ac + 1) (lv' := [(1, .int (ac + 1)), (2, va_rf (some y.1)), (0, va_rf (some c9))]) C dX4_usedPieces_25 rfl hl (by decide) (q_k0 (q_kN 0 rfl (by decide) (by decide) (q_kC 2 rfl (by decide) (q_cat _) q_kz))) (fun ls hl => ?_)
          refine q_aload_n (r := some y.1) C dX4_usedPieces_26 rfl (lv_at hl 1 rfl) ?_
          refine g_Piece_behind C hV hL_y hK_y (Or.inr ⟨_, wd_131⟩) dX4_usedPieces_27 ?_
          refine q_nr (fun r27 h27 => ?_)
          refine q_astore_n (r := r27) (lv' := [(2, va_rf (r27)), (1, .int (ac + 1)), (0, va_rf (some c9))]) C dX4_usedPieces_30 rfl hl (by decide) (q_k0 (q_kC 0 rfl (by decide) rfl (q_kN 2 rfl (by decide) (by decide) q_kz))) (fun ls hl => ?_)
          refine lv_goto (tgt := 7) C.1 C.2.1 dX4_usedPieces_31 (by decide) ?_
          subst h27
          refine ih _ (S.R 0 y.1) (k9 + q_f2 y.2) R9 (a9 + y.2.1) ls (by simp at hk; omega) hl hch2 hpc2.2 ?_ (by have hcn2 : k9 + (q_f2 y.2 + q_cn q_f2 (q_vl R9)) = q_cn q_f2 (q_vl P9) := hcn; omega) (fun x hx => hmem x (List.mem_cons_of_mem _ hx))
          have hfv : q_f2 y.2 = 1 := (if_neg (by rw [q_fl0.mp c16]; decide))
          rw [hfv, hac]
          exact nI_1 k9
        · refine lv_iconst (v := 0) C.1 C.2.1 dX4_usedPieces_19 (by decide) ?_
          refine lv_goto (tgt := 24) C.1 C.2.1 dX4_usedPieces_20 (by decide) ?_
          refine lv_iadd C.1 C.2.1 dX4_usedPieces_24 ?_
          refine q_istore_n (x := ac + 0) (lv' := [(1, .int (ac + 0)), (2, va_rf (some y.1)), (0, va_rf (some c9))]) C dX4_usedPieces_25 rfl hl (by decide) (q_k0 (q_kN 0 rfl (by decide) (by decide) (q_kC 2 rfl (by decide) (q_cat _) q_kz))) (fun ls hl => ?_)
          refine q_aload_n (r := some y.1) C dX4_usedPieces_26 rfl (lv_at hl 1 rfl) ?_
          refine g_Piece_behind C hV hL_y hK_y (Or.inr ⟨_, wd_131⟩) dX4_usedPieces_27 ?_
          refine q_nr (fun r27 h27 => ?_)
          refine q_astore_n (r := r27) (lv' := [(2, va_rf (r27)), (1, .int (ac + 0)), (0, va_rf (some c9))]) C dX4_usedPieces_30 rfl hl (by decide) (q_k0 (q_kC 0 rfl (by decide) rfl (q_kN 2 rfl (by decide) (by decide) q_kz))) (fun ls hl => ?_)
          refine lv_goto (tgt := 7) C.1 C.2.1 dX4_usedPieces_31 (by decide) ?_
          subst h27
          refine ih _ (S.R 0 y.1) (k9 + q_f2 y.2) R9 (a9 + y.2.1) ls (by simp at hk; omega) hl hch2 hpc2.2 ?_ (by have hcn2 : k9 + (q_f2 y.2 + q_cn q_f2 (q_vl R9)) = q_cn q_f2 (q_vl P9) := hcn; omega) (fun x hx => hmem x (List.mem_cons_of_mem _ hx))
          have hfv : q_f2 y.2 = 0 := (if_pos (by cases hbb : y.2.2.1 with | true => rfl | false => exact absurd (show q_fl y.2.2.1 = 0 by rw [hbb]; rfl) c16))
          rw [hfv, hac]
          exact (by rw [Nat.add_zero]; exact Int32.add_zero _)
  refine lv_iconst (v := 0) C.1 C.2.1 dX4_usedPieces_0 (by decide) ?_
  refine q_istore_n (x := 0) (lv' := [(1, .int (0)), (0, va_rf (some c9))]) C dX4_usedPieces_1 rfl hl (by decide) (q_k0 (q_kC 0 rfl (by decide) (q_cat _) q_kz)) (fun ls hl => ?_)
  refine q_aload_n (r := some c9) C dX4_usedPieces_2 rfl (lv_at hl 1 rfl) ?_
  refine g_Shelf_lowest C hV hL_c9 hK_c9 (Or.inl wd_178) dX4_usedPieces_3 ?_
  refine q_nr (fun r3 h3 => ?_)
  refine q_astore_n (r := r3) (lv' := [(2, va_rf (r3)), (1, .int (0)), (0, va_rf (some c9))]) C dX4_usedPieces_6 rfl hl (by decide) (q_k0 (q_kC 0 rfl (by decide) rfl (q_kN 1 rfl (by decide) (by decide) q_kz))) (fun ls hl => ?_)
  exact loop (P9.length + 1) 0 r3 0 P9 1 ls (Nat.lt_succ_self _) hl (by rw [h3]; exact hch9) hpc9 nI_0.symm (Nat.zero_add _) (fun x hx => hx)
theorem c_Shelf_usedPieces (l : Launch) (E : qE) (S : qS) (c9 n9 : Nat) (P9 : List q_X) (hln : q_line S c9 n9 P9) : q_Mi l yX4_usedPieces cX4_usedPieces 3 .int { frames := 0, cells := 0, slots := 0, locals := 0 } E [.ref c9] S (fun r S1 => S1 = S ∧ r = nI (q_cn q_f2 (q_vl P9))) 0 0 := c0_Shelf_usedPieces l E S c9 n9 P9 hln _ (fun _ _ h => h)

set_option maxHeartbeats 4000000 in
set_option maxRecDepth 100000 in
theorem c0_Shelf_shelvedPieces (l : Launch) (E : qE) (S : qS) (c9 n9 : Nat) (P9 : List q_X) (hln : q_line S c9 n9 P9) (post : Int32 → qS → Prop) (hpost : ∀ r S1, (S1 = S ∧ r = nI (q_cn q_f3 (q_vl P9))) → post r S1) : q_Mi l yX4_shelvedPieces cX4_shelvedPieces 3 .int { frames := 1, cells := 0, slots := 0, locals := 20 } E [.ref c9] S (post) 0 0 := by
  refine q_ofW1 (by decide) (q_1c rfl q_1n) (Nat.le_of_ble_eq_true rfl) (fun p e s m below meth c C hV hr hlk hnm ls hl => ?_)
  have hl : lv_has ls 3 [(0, va_rf (some c9))] := hl
  obtain ⟨hL_c9, hK_c9, hn9, hch9, hpc9, hsz9, hle9, hpos9⟩ := id hln
  have loop : ∀ (k : Nat) (ac : Int32) (pp : Option Nat) (k9 : Nat) (R : List q_X) (a9 : Nat) (H : Heap) (locs : List Loc) (ls : Array Slot), R.length < k → q_V E s S H locs → lv_has ls 3 [(2, va_rf (pp)), (1, .int (ac)), (0, va_rf (some c9))] → q_ch (S.R 0) pp (q_ad R) → q_pcs S a9 R → ac = nI k9 → k9 + q_cn q_f3 (q_vl R) = q_cn q_f3 (q_vl P9) → (∀ x ∈ R, x ∈ P9) → W p l e ({ frames := 1, cells := 0, slots := 0, locals := 20 } : Room) s m [.ref c9].toArray below meth c H locs (0) (0) (MQ below (va_Qi (post) (q_B E) E.A) [.ref c9].toArray s (0) (0) E.A) (F0 m 7 ls []) := by
    intro k
    induction k with
    | zero => intro ac pp k9 R a9 H locs ls hk; exact absurd hk (Nat.not_lt_zero _)
    | succ k ih =>
      intro ac pp k9 R a9 H locs ls hk hV hl hch hpc hac hcn hmem
      refine q_aload_n (r := pp) C dX4_shelvedPieces_7 rfl (lv_at hl 0 rfl) ?_
      refine q_ifnull (r := pp) (tgt := 34) C dX4_shelvedPieces_8 (by decide) (fun c8 => ?_) (fun x8 c8 => ?_)
      · subst c8
        refine lv_iload_n C.1 C.2.1 dX4_shelvedPieces_34 rfl (lv_at hl 1 rfl) ?_
        refine q_iret (v := ac) C hV hr hlk (Nat.le_of_ble_eq_true rfl) (Nat.le_of_ble_eq_true rfl) dX4_shelvedPieces_35 ?_
        have hR : R = [] := by cases R with | nil => rfl | cons y t => exact nomatch hch.1
        subst hR
        refine hpost _ _ ⟨rfl, ?_⟩
        rw [hac, ← hcn]
        rfl
      · subst c8
        obtain ⟨y, R9, rfl, hy, hch2⟩ : ∃ y R9, R = y :: R9 ∧ y.1 = x8 ∧ q_ch (S.R 0) (S.R 0 x8) (q_ad R9) := by
          cases R with
          | nil => exact nomatch (show some x8 = none from hch)
          | cons y t => have e := Option.some.inj hch.1; exact ⟨y, t, rfl, e.symm, by have h2 := hch.2; rw [← e] at h2; exact h2⟩
        subst hy
        have hpc2 := hpc
        obtain ⟨hL_y, hK_y, hAt, hCe, hFr, -⟩ := hpc.1
        have hy1 := q_sz_mem (hmem y List.mem_cons_self)
        have hyp := hpos9 y (hmem y List.mem_cons_self)
        refine lv_iload_n C.1 C.2.1 dX4_shelvedPieces_11 rfl (lv_at hl 1 rfl) ?_
        refine q_aload_n (r := some y.1) C dX4_shelvedPieces_12 rfl (lv_at hl 0 rfl) ?_
        refine q_ci hV (q_rN (b := y.1) (As := []) (rest := [.int (ac)]) C hV (c_Piece_isShelved l E S y.1 hL_y hK_y) wd_241 wd_238 wd_240 wd_15 wd_41 ok_X0_isShelved ⟨rfl, rfl, Nat.le_of_ble_eq_true rfl, Nat.le_of_ble_eq_true rfl⟩ (q_rc0 hV hL_y hK_y) rfl hl.1 rfl (q_sm (q_1c rfl q_1n) (Nat.le_of_ble_eq_true rfl)) dX4_shelvedPieces_13 ⟨Nat.le_of_ble_eq_true rfl, Nat.le_of_ble_eq_true rfl⟩) (fun i13 S13 H locs hp13 hV => ?_)
        obtain ⟨eS13, hp13⟩ := hp13
        rw [eS13] at hV
        refine lv_if_eq (tgt := 23) C.1 C.2.1 dX4_shelvedPieces_16 (by decide) (fun c16 => ?_) (fun c16 => ?_)
        · have hiff : (¬ S.I 2 y.1 = 0 ∧ 3 ≤ S.I 1 y.1) ↔ (y.2.2.1 = true ∧ 3 ≤ y.2.1) := by
            rw [hFr, hCe, q_fl0]
            have h3 : (3 : Int32) = nI 3 := by decide
            rw [h3, nI_leI (by omega) (by omega)]
            cases y.2.2.1 <;> simp
          have hcnd : ¬ (y.2.2.1 = true ∧ 3 ≤ y.2.1) := fun h9 => by rw [if_pos (hiff.mpr h9)] at hp13; rw [hp13] at c16; exact absurd c16 (by decide)
          refine lv_iconst (v := 0) C.1 C.2.1 dX4_shelvedPieces_23 (by decide) ?_
          refine lv_iadd C.1 C.2.1 dX4_shelvedPieces_24 ?_
          refine q_istore_n (x := ac + 0) (lv' := [(1, .int (ac + 0)), (2, va_rf (some y.1)), (0, va_rf (some c9))]) C dX4_shelvedPieces_25 rfl hl (by decide) (q_k0 (q_kN 0 rfl (by decide) (by decide) (q_kC 2 rfl (by decide) (q_cat _) q_kz))) (fun ls hl => ?_)
          refine q_aload_n (r := some y.1) C dX4_shelvedPieces_26 rfl (lv_at hl 1 rfl) ?_
          refine g_Piece_behind C hV hL_y hK_y (Or.inr ⟨_, wd_131⟩) dX4_shelvedPieces_27 ?_
          refine q_nr (fun r27 h27 => ?_)
          refine q_astore_n (r := r27) (lv' := [(2, va_rf (r27)), (1, .int (ac + 0)), (0, va_rf (some c9))]) C dX4_shelvedPieces_30 rfl hl (by decide) (q_k0 (q_kC 0 rfl (by decide) rfl (q_kN 2 rfl (by decide) (by decide) q_kz))) (fun ls hl => ?_)
          refine lv_goto (tgt := 7) C.1 C.2.1 dX4_shelvedPieces_31 (by decide) ?_
          subst h27
          refine ih _ (S.R 0 y.1) (k9 + q_f3 y.2) R9 (a9 + y.2.1) H locs ls (by simp at hk; omega) hV hl hch2 hpc2.2 ?_ (by have hcn2 : k9 + (q_f3 y.2 + q_cn q_f3 (q_vl R9)) = q_cn q_f3 (q_vl P9) := hcn; omega) (fun x hx => hmem x (List.mem_cons_of_mem _ hx))
          have hfv : q_f3 y.2 = 0 := (if_neg hcnd)
          rw [hfv, hac]
          exact (by rw [Nat.add_zero]; exact Int32.add_zero _)
        · have hiff : (¬ S.I 2 y.1 = 0 ∧ 3 ≤ S.I 1 y.1) ↔ (y.2.2.1 = true ∧ 3 ≤ y.2.1) := by
            rw [hFr, hCe, q_fl0]
            have h3 : (3 : Int32) = nI 3 := by decide
            rw [h3, nI_leI (by omega) (by omega)]
            cases y.2.2.1 <;> simp
          have hcnd : y.2.2.1 = true ∧ 3 ≤ y.2.1 := by
            rcases Classical.em (y.2.2.1 = true ∧ 3 ≤ y.2.1) with h9 | h9
            · exact h9
            · rw [if_neg (fun h8 => h9 (hiff.mp h8))] at hp13; exact absurd hp13 c16
          refine lv_iconst (v := 1) C.1 C.2.1 dX4_shelvedPieces_19 (by decide) ?_
          refine lv_goto (tgt := 24) C.1 C.2.1 dX4_shelvedPieces_20 (by decide) ?_
          refine lv_iadd C.1 C.2.1 dX4_shelvedPieces_24 ?_
          refine q_istore_n (x := ac + 1) (lv' := [(1, .int (ac + 1)), (2, va_rf (some y.1)), (0, va_rf (some c9))]) C dX4_shelvedPieces_25 rfl hl (by decide) (q_k0 (q_kN 0 rfl (by decide) (by decide) (q_kC 2 rfl (by decide) (q_cat _) q_kz))) (fun ls hl => ?_)
          refine q_aload_n (r := some y.1) C dX4_shelvedPieces_26 rfl (lv_at hl 1 rfl) ?_
          refine g_Piece_behind C hV hL_y hK_y (Or.inr ⟨_, wd_131⟩) dX4_shelvedPieces_27 ?_
          refine q_nr (fun r27 h27 => ?_)
          refine q_astore_n (r := r27) (lv' := [(2, va_rf (r27)), (1, .int (ac + 1)), (0, va_rf (some c9))]) C dX4_shelvedPieces_30 rfl hl (by decide) (q_k0 (q_kC 0 rfl (by decide) rfl (q_kN 2 rfl (by decide) (by decide) q_kz))) (fun ls hl => ?_)
          refine lv_goto (tgt := 7) C.1 C.2.1 dX4_shelvedPieces_31 (by decide) ?_
          subst h27
          refine ih _ (S.R 0 y.1) (k9 + q_f3 y.2) R9 (a9 + y.2.1) H locs ls (by simp at hk; omega) hV hl hch2 hpc2.2 ?_ (by have hcn2 : k9 + (q_f3 y.2 + q_cn q_f3 (q_vl R9)) = q_cn q_f3 (q_vl P9) := hcn; omega) (fun x hx => hmem x (List.mem_cons_of_mem _ hx))
          have hfv : q_f3 y.2 = 1 := (if_pos hcnd)
          rw [hfv, hac]
          exact nI_1 k9
  refine lv_iconst (v := 0) C.1 C.2.1 dX4_shelvedPieces_0 (by decide) ?_
  refine q_istore_n (x := 0) (lv' := [(1, .int (0)), (0, va_rf (some c9))]) C dX4_shelvedPieces_1 rfl hl (by decide) (q_k0 (q_kC 0 rfl (by decide) (q_cat _) q_kz)) (fun ls hl => ?_)
  refine q_aload_n (r := some c9) C dX4_shelvedPieces_2 rfl (lv_at hl 1 rfl) ?_
  refine g_Shelf_lowest C hV hL_c9 hK_c9 (Or.inl wd_178) dX4_shelvedPieces_3 ?_
  refine q_nr (fun r3 h3 => ?_)
  refine q_astore_n (r := r3) (lv' := [(2, va_rf (r3)), (1, .int (0)), (0, va_rf (some c9))]) C dX4_shelvedPieces_6 rfl hl (by decide) (q_k0 (q_kC 0 rfl (by decide) rfl (q_kN 1 rfl (by decide) (by decide) q_kz))) (fun ls hl => ?_)
  exact loop (P9.length + 1) 0 r3 0 P9 1 s.heap [] ls (Nat.lt_succ_self _) hV hl (by rw [h3]; exact hch9) hpc9 nI_0.symm (Nat.zero_add _) (fun x hx => hx)
theorem c_Shelf_shelvedPieces (l : Launch) (E : qE) (S : qS) (c9 n9 : Nat) (P9 : List q_X) (hln : q_line S c9 n9 P9) : q_Mi l yX4_shelvedPieces cX4_shelvedPieces 3 .int { frames := 1, cells := 0, slots := 0, locals := 20 } E [.ref c9] S (fun r S1 => S1 = S ∧ r = nI (q_cn q_f3 (q_vl P9))) 0 0 := c0_Shelf_shelvedPieces l E S c9 n9 P9 hln _ (fun _ _ h => h)

set_option maxHeartbeats 4000000 in
set_option maxRecDepth 100000 in
theorem c0_Shelf_crumbs (l : Launch) (E : qE) (S : qS) (c9 n9 : Nat) (P9 : List q_X) (hln : q_line S c9 n9 P9) (post : Int32 → qS → Prop) (hpost : ∀ r S1, (S1 = S ∧ r = nI (q_cn q_f4 (q_vl P9))) → post r S1) : q_Mi l yX4_crumbs cX4_crumbs 3 .int { frames := 1, cells := 0, slots := 0, locals := 20 } E [.ref c9] S (post) 0 0 := by
  refine q_ofW1 (by decide) (q_1c rfl q_1n) (Nat.le_of_ble_eq_true rfl) (fun p e s m below meth c C hV hr hlk hnm ls hl => ?_)
  have hl : lv_has ls 3 [(0, va_rf (some c9))] := hl
  obtain ⟨hL_c9, hK_c9, hn9, hch9, hpc9, hsz9, hle9, hpos9⟩ := id hln
  have loop : ∀ (k : Nat) (ac : Int32) (pp : Option Nat) (k9 : Nat) (R : List q_X) (a9 : Nat) (H : Heap) (locs : List Loc) (ls : Array Slot), R.length < k → q_V E s S H locs → lv_has ls 3 [(2, va_rf (pp)), (1, .int (ac)), (0, va_rf (some c9))] → q_ch (S.R 0) pp (q_ad R) → q_pcs S a9 R → ac = nI k9 → k9 + q_cn q_f4 (q_vl R) = q_cn q_f4 (q_vl P9) → (∀ x ∈ R, x ∈ P9) → W p l e ({ frames := 1, cells := 0, slots := 0, locals := 20 } : Room) s m [.ref c9].toArray below meth c H locs (0) (0) (MQ below (va_Qi (post) (q_B E) E.A) [.ref c9].toArray s (0) (0) E.A) (F0 m 7 ls []) := by
    intro k
    induction k with
    | zero => intro ac pp k9 R a9 H locs ls hk; exact absurd hk (Nat.not_lt_zero _)
    | succ k ih =>
      intro ac pp k9 R a9 H locs ls hk hV hl hch hpc hac hcn hmem
      refine q_aload_n (r := pp) C dX4_crumbs_7 rfl (lv_at hl 0 rfl) ?_
      refine q_ifnull (r := pp) (tgt := 34) C dX4_crumbs_8 (by decide) (fun c8 => ?_) (fun x8 c8 => ?_)
      · subst c8
        refine lv_iload_n C.1 C.2.1 dX4_crumbs_34 rfl (lv_at hl 1 rfl) ?_
        refine q_iret (v := ac) C hV hr hlk (Nat.le_of_ble_eq_true rfl) (Nat.le_of_ble_eq_true rfl) dX4_crumbs_35 ?_
        have hR : R = [] := by cases R with | nil => rfl | cons y t => exact nomatch hch.1
        subst hR
        refine hpost _ _ ⟨rfl, ?_⟩
        rw [hac, ← hcn]
        rfl
      · subst c8
        obtain ⟨y, R9, rfl, hy, hch2⟩ : ∃ y R9, R = y :: R9 ∧ y.1 = x8 ∧ q_ch (S.R 0) (S.R 0 x8) (q_ad R9) := by
          cases R with
          | nil => exact nomatch (show some x8 = none from hch)
          | cons y t => have e := Option.some.inj hch.1; exact ⟨y, t, rfl, e.symm, by have h2 := hch.2; rw [← e] at h2; exact h2⟩
        subst hy
        have hpc2 := hpc
        obtain ⟨hL_y, hK_y, hAt, hCe, hFr, -⟩ := hpc.1
        have hy1 := q_sz_mem (hmem y List.mem_cons_self)
        have hyp := hpos9 y (hmem y List.mem_cons_self)
        refine lv_iload_n C.1 C.2.1 dX4_crumbs_11 rfl (lv_at hl 1 rfl) ?_
        refine q_aload_n (r := some y.1) C dX4_crumbs_12 rfl (lv_at hl 0 rfl) ?_
        refine q_ci hV (q_rN (b := y.1) (As := []) (rest := [.int (ac)]) C hV (c_Piece_isCrumb l E S y.1 hL_y hK_y) wd_423 wd_420 wd_422 wd_24 wd_41 ok_X0_isCrumb ⟨rfl, rfl, Nat.le_of_ble_eq_true rfl, Nat.le_of_ble_eq_true rfl⟩ (q_rc0 hV hL_y hK_y) rfl hl.1 rfl (q_sm (q_1c rfl q_1n) (Nat.le_of_ble_eq_true rfl)) dX4_crumbs_13 ⟨Nat.le_of_ble_eq_true rfl, Nat.le_of_ble_eq_true rfl⟩) (fun i13 S13 H locs hp13 hV => ?_)
        obtain ⟨eS13, hp13⟩ := hp13
        rw [eS13] at hV
        refine lv_if_eq (tgt := 23) C.1 C.2.1 dX4_crumbs_16 (by decide) (fun c16 => ?_) (fun c16 => ?_)
        · have hiff : (¬ S.I 2 y.1 = 0 ∧ S.I 1 y.1 < 3) ↔ (y.2.2.1 = true ∧ y.2.1 < 3) := by
            rw [hFr, hCe, q_fl0]
            have h3 : (3 : Int32) = nI 3 := by decide
            rw [h3, nI_ltI (by omega) (by omega)]
            cases y.2.2.1 <;> simp
          have hcnd : ¬ (y.2.2.1 = true ∧ y.2.1 < 3) := fun h9 => by rw [if_pos (hiff.mpr h9)] at hp13; rw [hp13] at c16; exact absurd c16 (by decide)
          refine lv_iconst (v := 0) C.1 C.2.1 dX4_crumbs_23 (by decide) ?_
          refine lv_iadd C.1 C.2.1 dX4_crumbs_24 ?_
          refine q_istore_n (x := ac + 0) (lv' := [(1, .int (ac + 0)), (2, va_rf (some y.1)), (0, va_rf (some c9))]) C dX4_crumbs_25 rfl hl (by decide) (q_k0 (q_kN 0 rfl (by decide) (by decide) (q_kC 2 rfl (by decide) (q_cat _) q_kz))) (fun ls hl => ?_)
          refine q_aload_n (r := some y.1) C dX4_crumbs_26 rfl (lv_at hl 1 rfl) ?_
          refine g_Piece_behind C hV hL_y hK_y (Or.inr ⟨_, wd_131⟩) dX4_crumbs_27 ?_
          refine q_nr (fun r27 h27 => ?_)
          refine q_astore_n (r := r27) (lv' := [(2, va_rf (r27)), (1, .int (ac + 0)), (0, va_rf (some c9))]) C dX4_crumbs_30 rfl hl (by decide) (q_k0 (q_kC 0 rfl (by decide) rfl (q_kN 2 rfl (by decide) (by decide) q_kz))) (fun ls hl => ?_)
          refine lv_goto (tgt := 7) C.1 C.2.1 dX4_crumbs_31 (by decide) ?_
          subst h27
          refine ih _ (S.R 0 y.1) (k9 + q_f4 y.2) R9 (a9 + y.2.1) H locs ls (by simp at hk; omega) hV hl hch2 hpc2.2 ?_ (by have hcn2 : k9 + (q_f4 y.2 + q_cn q_f4 (q_vl R9)) = q_cn q_f4 (q_vl P9) := hcn; omega) (fun x hx => hmem x (List.mem_cons_of_mem _ hx))
          have hfv : q_f4 y.2 = 0 := (if_neg hcnd)
          rw [hfv, hac]
          exact (by rw [Nat.add_zero]; exact Int32.add_zero _)
        · have hiff : (¬ S.I 2 y.1 = 0 ∧ S.I 1 y.1 < 3) ↔ (y.2.2.1 = true ∧ y.2.1 < 3) := by
            rw [hFr, hCe, q_fl0]
            have h3 : (3 : Int32) = nI 3 := by decide
            rw [h3, nI_ltI (by omega) (by omega)]
            cases y.2.2.1 <;> simp
          have hcnd : y.2.2.1 = true ∧ y.2.1 < 3 := by
            rcases Classical.em (y.2.2.1 = true ∧ y.2.1 < 3) with h9 | h9
            · exact h9
            · rw [if_neg (fun h8 => h9 (hiff.mp h8))] at hp13; exact absurd hp13 c16
          refine lv_iconst (v := 1) C.1 C.2.1 dX4_crumbs_19 (by decide) ?_
          refine lv_goto (tgt := 24) C.1 C.2.1 dX4_crumbs_20 (by decide) ?_
          refine lv_iadd C.1 C.2.1 dX4_crumbs_24 ?_
          refine q_istore_n (x := ac + 1) (lv' := [(1, .int (ac + 1)), (2, va_rf (some y.1)), (0, va_rf (some c9))]) C dX4_crumbs_25 rfl hl (by decide) (q_k0 (q_kN 0 rfl (by decide) (by decide) (q_kC 2 rfl (by decide) (q_cat _) q_kz))) (fun ls hl => ?_)
          refine q_aload_n (r := some y.1) C dX4_crumbs_26 rfl (lv_at hl 1 rfl) ?_
          refine g_Piece_behind C hV hL_y hK_y (Or.inr ⟨_, wd_131⟩) dX4_crumbs_27 ?_
          refine q_nr (fun r27 h27 => ?_)
          refine q_astore_n (r := r27) (lv' := [(2, va_rf (r27)), (1, .int (ac + 1)), (0, va_rf (some c9))]) C dX4_crumbs_30 rfl hl (by decide) (q_k0 (q_kC 0 rfl (by decide) rfl (q_kN 2 rfl (by decide) (by decide) q_kz))) (fun ls hl => ?_)
          refine lv_goto (tgt := 7) C.1 C.2.1 dX4_crumbs_31 (by decide) ?_
          subst h27
          refine ih _ (S.R 0 y.1) (k9 + q_f4 y.2) R9 (a9 + y.2.1) H locs ls (by simp at hk; omega) hV hl hch2 hpc2.2 ?_ (by have hcn2 : k9 + (q_f4 y.2 + q_cn q_f4 (q_vl R9)) = q_cn q_f4 (q_vl P9) := hcn; omega) (fun x hx => hmem x (List.mem_cons_of_mem _ hx))
          have hfv : q_f4 y.2 = 1 := (if_pos hcnd)
          rw [hfv, hac]
          exact nI_1 k9
  refine lv_iconst (v := 0) C.1 C.2.1 dX4_crumbs_0 (by decide) ?_
  refine q_istore_n (x := 0) (lv' := [(1, .int (0)), (0, va_rf (some c9))]) C dX4_crumbs_1 rfl hl (by decide) (q_k0 (q_kC 0 rfl (by decide) (q_cat _) q_kz)) (fun ls hl => ?_)
  refine q_aload_n (r := some c9) C dX4_crumbs_2 rfl (lv_at hl 1 rfl) ?_
  refine g_Shelf_lowest C hV hL_c9 hK_c9 (Or.inl wd_178) dX4_crumbs_3 ?_
  refine q_nr (fun r3 h3 => ?_)
  refine q_astore_n (r := r3) (lv' := [(2, va_rf (r3)), (1, .int (0)), (0, va_rf (some c9))]) C dX4_crumbs_6 rfl hl (by decide) (q_k0 (q_kC 0 rfl (by decide) rfl (q_kN 1 rfl (by decide) (by decide) q_kz))) (fun ls hl => ?_)
  exact loop (P9.length + 1) 0 r3 0 P9 1 s.heap [] ls (Nat.lt_succ_self _) hV hl (by rw [h3]; exact hch9) hpc9 nI_0.symm (Nat.zero_add _) (fun x hx => hx)
theorem c_Shelf_crumbs (l : Launch) (E : qE) (S : qS) (c9 n9 : Nat) (P9 : List q_X) (hln : q_line S c9 n9 P9) : q_Mi l yX4_crumbs cX4_crumbs 3 .int { frames := 1, cells := 0, slots := 0, locals := 20 } E [.ref c9] S (fun r S1 => S1 = S ∧ r = nI (q_cn q_f4 (q_vl P9))) 0 0 := c0_Shelf_crumbs l E S c9 n9 P9 hln _ (fun _ _ h => h)
end
section
/-! VALUES: the same list without the objects -/
def v_sz : List (Nat × Bool × Nat) → Nat
  | [] => 0
  | v :: V => v.1 + v_sz V
theorem v_sz_vl : ∀ (P : List q_X), v_sz (q_vl P) = q_sz P := by
  intro P
  induction P with
  | nil => rfl
  | cons x P ih => show x.2.1 + v_sz (q_vl P) = _; rw [ih]; rfl
theorem v_sz_app (A B : List (Nat × Bool × Nat)) : v_sz (A ++ B) = v_sz A + v_sz B := by
  induction A with
  | nil => simp [v_sz]
  | cons x A ih => simp only [List.cons_append, v_sz, ih]; omega
/-- one cell is in one piece -/
theorem q_in_uniq : ∀ {A A' B B' : List q_X} {x x' : q_X} {v : Nat}, A ++ x :: B = A' ++ x' :: B' → q_sz A ≤ v → v < q_sz A + x.2.1 → q_sz A' ≤ v → v < q_sz A' + x'.2.1 → A = A' ∧ x = x' ∧ B = B' := by
  intro A
  induction A with
  | nil =>
    intro A' B B' x x' v h h1 h2 h3 h4
    cases A' with
    | nil => simp at h; exact ⟨rfl, h.1, h.2⟩
    | cons y t =>
      simp at h
      obtain ⟨rfl, h5⟩ := h
      simp only [q_sz] at h2 h3
      omega
  | cons y t ih =>
    intro A' B B' x x' v h h1 h2 h3 h4
    cases A' with
    | nil =>
      simp at h
      obtain ⟨rfl, h5⟩ := h
      simp only [q_sz] at h1 h4
      omega
    | cons y' t' =>
      simp at h
      obtain ⟨rfl, h5⟩ := h
      simp only [q_sz] at h1 h2 h3 h4
      obtain ⟨e1, e2, e3⟩ := ih (v := v - y.2.1) h5 (by omega) (by omega) (by omega) (by omega)
      exact ⟨by rw [e1], e2, e3⟩
theorem q_pok_at {S : qS} {A B : List q_X} {x : q_X} (h : q_pcs S 1 (A ++ x :: B)) : q_pok S (1 + q_sz A) x := (q_pcs_app.mp h).2.1
set_option maxHeartbeats 4000000 in
set_option maxRecDepth 100000 in
theorem c0_Shelf_greatestFree (l : Launch) (E : qE) (S : qS) (c9 n9 : Nat) (P9 : List q_X) (hln : q_line S c9 n9 P9) (post : Int32 → qS → Prop) (hpost : ∀ r S1, (S1 = S ∧ r = nI (q_mx (q_vl P9))) → post r S1) : q_Mi l yX4_greatestFree cX4_greatestFree 3 .int { frames := 0, cells := 0, slots := 0, locals := 0 } E [.ref c9] S (post) 0 0 := by
  refine q_ofW1 (by decide) (q_1c rfl q_1n) (Nat.le_of_ble_eq_true rfl) (fun p e s m below meth c C hV hr hlk hnm ls hl => ?_)
  have hl : lv_has ls 3 [(0, va_rf (some c9))] := hl
  obtain ⟨hL_c9, hK_c9, hn9, hch9, hpc9, hsz9, hle9, hpos9⟩ := id hln
  have loop : ∀ (k : Nat) (ac : Int32) (pp : Option Nat) (k9 : Nat) (R : List q_X) (a9 : Nat) (ls : Array Slot), R.length < k → lv_has ls 3 [(2, va_rf (pp)), (1, .int (ac)), (0, va_rf (some c9))] → q_ch (S.R 0) pp (q_ad R) → q_pcs S a9 R → ac = nI k9 → max k9 (q_mx (q_vl R)) = q_mx (q_vl P9) → (∀ x ∈ R, x ∈ P9) → k9 < 2 ^ 31 → W p l e ({ frames := 0, cells := 0, slots := 0, locals := 0 } : Room) s m [.ref c9].toArray below meth c s.heap [] (0) (0) (MQ below (va_Qi (post) (q_B E) E.A) [.ref c9].toArray s (0) (0) E.A) (F0 m 7 ls []) := by
    intro k
    induction k with
    | zero => intro ac pp k9 R a9 ls hk; exact absurd hk (Nat.not_lt_zero _)
    | succ k ih =>
      intro ac pp k9 R a9 ls hk hl hch hpc hac hcn hmem hkb
      refine q_aload_n (r := pp) C dX4_greatestFree_7 rfl (lv_at hl 0 rfl) ?_
      refine q_ifnull (r := pp) (tgt := 39) C dX4_greatestFree_8 (by decide) (fun c8 => ?_) (fun x8 c8 => ?_)
      · subst c8
        refine lv_iload_n C.1 C.2.1 dX4_greatestFree_39 rfl (lv_at hl 1 rfl) ?_
        refine q_iret (v := ac) C hV hr hlk (Nat.le_of_ble_eq_true rfl) (Nat.le_of_ble_eq_true rfl) dX4_greatestFree_40 ?_
        have hR : R = [] := by cases R with | nil => rfl | cons y t => exact nomatch hch.1
        subst hR
        refine hpost _ _ ⟨rfl, ?_⟩
        rw [hac, ← hcn]
        exact congrArg nI (Nat.max_zero k9).symm
      · subst c8
        obtain ⟨y, R9, rfl, hy, hch2⟩ : ∃ y R9, R = y :: R9 ∧ y.1 = x8 ∧ q_ch (S.R 0) (S.R 0 x8) (q_ad R9) := by
          cases R with
          | nil => exact nomatch (show some x8 = none from hch)
          | cons y t => have e := Option.some.inj hch.1; exact ⟨y, t, rfl, e.symm, by have h2 := hch.2; rw [← e] at h2; exact h2⟩
        subst hy
        have hpc2 := hpc
        obtain ⟨hL_y, hK_y, hAt, hCe, hFr, -⟩ := hpc.1
        have hy1 := q_sz_mem (hmem y List.mem_cons_self)
        refine q_aload_n (r := some y.1) C dX4_greatestFree_11 rfl (lv_at hl 0 rfl) ?_
        refine g_Piece_isFree C hV hL_y hK_y (Or.inr ⟨_, wd_127⟩) dX4_greatestFree_12 ?_
        refine q_ti (v' := q_fl y.2.2.1) (hFr) ?_
        refine lv_if_eq (tgt := 31) C.1 C.2.1 dX4_greatestFree_15 (by decide) (fun c15 => ?_) (fun c15 => ?_)
        · refine q_aload_n (r := some y.1) C dX4_greatestFree_31 rfl (lv_at hl 0 rfl) ?_
          refine g_Piece_behind C hV hL_y hK_y (Or.inr ⟨_, wd_131⟩) dX4_greatestFree_32 ?_
          refine q_nr (fun r32 h32 => ?_)
          refine q_astore_n (r := r32) (lv' := [(2, va_rf (r32)), (1, .int (ac)), (0, va_rf (some c9))]) C dX4_greatestFree_35 rfl hl (by decide) (q_k0 (q_kC 1 rfl (by decide) rfl (q_kN 2 rfl (by decide) (by decide) q_kz))) (fun ls hl => ?_)
          refine lv_goto (tgt := 7) C.1 C.2.1 dX4_greatestFree_36 (by decide) ?_
          subst h32
          refine ih _ (S.R 0 y.1) k9 R9 (a9 + y.2.1) ls (by simp at hk; omega) (lv_sub hl [0, 1, 2] rfl) hch2 hpc2.2 hac ?_ (fun x hx => hmem x (List.mem_cons_of_mem _ hx)) (by omega)
          have hcn2 : max k9 (max (if y.2.2.1 then y.2.1 else 0) (q_mx (q_vl R9))) = q_mx (q_vl P9) := hcn
          rw [q_fl0.mp c15] at hcn2
          rw [← hcn2]
          simp
        · refine q_aload_n (r := some y.1) C dX4_greatestFree_18 rfl (lv_at hl 0 rfl) ?_
          refine g_Piece_cells C hV hL_y hK_y (Or.inr ⟨_, wd_124⟩) dX4_greatestFree_19 ?_
          refine q_ti (v' := nI y.2.1) (hCe) ?_
          refine lv_iload_n C.1 C.2.1 dX4_greatestFree_22 rfl (lv_at hl 1 rfl) ?_
          refine lv_icmp_le (tgt := 31) C.1 C.2.1 dX4_greatestFree_23 (by decide) (fun c23 => ?_) (fun c23 => ?_)
          · refine q_aload_n (r := some y.1) C dX4_greatestFree_31 rfl (lv_at hl 0 rfl) ?_
            refine g_Piece_behind C hV hL_y hK_y (Or.inr ⟨_, wd_131⟩) dX4_greatestFree_32 ?_
            refine q_nr (fun r32 h32 => ?_)
            refine q_astore_n (r := r32) (lv' := [(2, va_rf (r32)), (1, .int (ac)), (0, va_rf (some c9))]) C dX4_greatestFree_35 rfl hl (by decide) (q_k0 (q_kC 1 rfl (by decide) rfl (q_kN 2 rfl (by decide) (by decide) q_kz))) (fun ls hl => ?_)
            refine lv_goto (tgt := 7) C.1 C.2.1 dX4_greatestFree_36 (by decide) ?_
            subst h32
            refine ih _ (S.R 0 y.1) k9 R9 (a9 + y.2.1) ls (by simp at hk; omega) (lv_sub hl [0, 1, 2] rfl) hch2 hpc2.2 hac ?_ (fun x hx => hmem x (List.mem_cons_of_mem _ hx)) (by omega)
            have hcn2 : max k9 (max (if y.2.2.1 then y.2.1 else 0) (q_mx (q_vl R9))) = q_mx (q_vl P9) := hcn
            have hbt : y.2.2.1 = true := by cases hbb : y.2.2.1 with | true => rfl | false => exact absurd (show q_fl y.2.2.1 = 0 by rw [hbb]; rfl) c15
            rw [hbt, if_pos rfl] at hcn2
            rw [← hcn2]
            have h9 : y.2.1 ≤ k9 := by have h8 := c23; rw [hac] at h8; exact (nI_leI (by omega) (by omega)).mp h8
            omega
          · refine q_aload_n (r := some y.1) C dX4_greatestFree_26 rfl (lv_at hl 0 rfl) ?_
            refine g_Piece_cells C hV hL_y hK_y (Or.inr ⟨_, wd_124⟩) dX4_greatestFree_27 ?_
            refine q_ti (v' := nI y.2.1) (hCe) ?_
            refine q_istore_n (x := nI y.2.1) (lv' := [(1, .int (nI y.2.1)), (2, va_rf (some y.1)), (0, va_rf (some c9))]) C dX4_greatestFree_30 rfl hl (by decide) (q_k0 (q_kN 0 rfl (by decide) (by decide) (q_kC 2 rfl (by decide) (q_cat _) q_kz))) (fun ls hl => ?_)
            refine q_aload_n (r := some y.1) C dX4_greatestFree_31 rfl (lv_at hl 1 rfl) ?_
            refine g_Piece_behind C hV hL_y hK_y (Or.inr ⟨_, wd_131⟩) dX4_greatestFree_32 ?_
            refine q_nr (fun r32 h32 => ?_)
            refine q_astore_n (r := r32) (lv' := [(2, va_rf (r32)), (1, .int (nI y.2.1)), (0, va_rf (some c9))]) C dX4_greatestFree_35 rfl hl (by decide) (q_k0 (q_kC 0 rfl (by decide) rfl (q_kN 2 rfl (by decide) (by decide) q_kz))) (fun ls hl => ?_)
            refine lv_goto (tgt := 7) C.1 C.2.1 dX4_greatestFree_36 (by decide) ?_
            subst h32
            refine ih _ (S.R 0 y.1) y.2.1 R9 (a9 + y.2.1) ls (by simp at hk; omega) (lv_sub hl [0, 1, 2] rfl) hch2 hpc2.2 rfl ?_ (fun x hx => hmem x (List.mem_cons_of_mem _ hx)) (by omega)
            have hcn2 : max k9 (max (if y.2.2.1 then y.2.1 else 0) (q_mx (q_vl R9))) = q_mx (q_vl P9) := hcn
            have hbt : y.2.2.1 = true := by cases hbb : y.2.2.1 with | true => rfl | false => exact absurd (show q_fl y.2.2.1 = 0 by rw [hbb]; rfl) c15
            rw [hbt, if_pos rfl] at hcn2
            rw [← hcn2]
            have h9 : ¬ y.2.1 ≤ k9 := fun h7 => c23 (by rw [hac]; exact (nI_leI (by omega) (by omega)).mpr h7)
            omega
  refine lv_iconst (v := 0) C.1 C.2.1 dX4_greatestFree_0 (by decide) ?_
  refine q_istore_n (x := 0) (lv' := [(1, .int (0)), (0, va_rf (some c9))]) C dX4_greatestFree_1 rfl hl (by decide) (q_k0 (q_kC 0 rfl (by decide) (q_cat _) q_kz)) (fun ls hl => ?_)
  refine q_aload_n (r := some c9) C dX4_greatestFree_2 rfl (lv_at hl 1 rfl) ?_
  refine g_Shelf_lowest C hV hL_c9 hK_c9 (Or.inl wd_178) dX4_greatestFree_3 ?_
  refine q_nr (fun r3 h3 => ?_)
  refine q_astore_n (r := r3) (lv' := [(2, va_rf (r3)), (1, .int (0)), (0, va_rf (some c9))]) C dX4_greatestFree_6 rfl hl (by decide) (q_k0 (q_kC 0 rfl (by decide) rfl (q_kN 1 rfl (by decide) (by decide) q_kz))) (fun ls hl => ?_)
  exact loop (P9.length + 1) 0 r3 0 P9 1 ls (Nat.lt_succ_self _) hl (by rw [h3]; exact hch9) hpc9 nI_0.symm (Nat.zero_max _) (fun x hx => hx) (by omega)
theorem c_Shelf_greatestFree (l : Launch) (E : qE) (S : qS) (c9 n9 : Nat) (P9 : List q_X) (hln : q_line S c9 n9 P9) : q_Mi l yX4_greatestFree cX4_greatestFree 3 .int { frames := 0, cells := 0, slots := 0, locals := 0 } E [.ref c9] S (fun r S1 => S1 = S ∧ r = nI (q_mx (q_vl P9))) 0 0 := c0_Shelf_greatestFree l E S c9 n9 P9 hln _ (fun _ _ h => h)

set_option maxHeartbeats 4000000 in
set_option maxRecDepth 100000 in
theorem c0_Shelf_holding (l : Launch) (E : qE) (S : qS) (c9 n9 : Nat) (P9 : List q_X) (hln : q_line S c9 n9 P9) (hn1 : 1 ≤ n9) (a : Int32) (post : Option Nat → qS → Prop) (hpost : ∀ r S1, (S1 = S ∧ (((a.toInt < 1 ∨ n9 < a.toInt) ∧ r = none) ∨ ∃ A x B, P9 = A ++ x :: B ∧ r = some x.1 ∧ 1 ≤ a.toInt ∧ (1 + q_sz A : Int) ≤ a.toInt ∧ a.toInt < 1 + q_sz A + x.2.1)) → post r S1) : q_Mq l yX4_holding cX4_holding 4 (.object "ChunkShelf$Piece") { frames := 0, cells := 0, slots := 0, locals := 0 } E [.ref c9, .int a] S (post) 0 0 := by
  refine q_ofW1 (by decide) (q_1c rfl (q_1c rfl q_1n)) (Nat.le_of_ble_eq_true rfl) (fun p e s m below meth c C hV hr hlk hnm ls hl => ?_)
  have hl : lv_has ls 4 [(0, va_rf (some c9)), (1, .int (a))] := hl
  obtain ⟨hL_c9, hK_c9, hn9, hch9, hpc9, hsz9, hle9, hpos9⟩ := id hln
  have h1i : (1 : Int32).toInt = 1 := by decide
  have hni : (nI n9).toInt = n9 := nI_toInt (by omega)
  have loop : 1 ≤ a.toInt → a.toInt ≤ n9 → ∀ (k : Nat) (pp fnd : Option Nat) (A R : List q_X) (ls : Array Slot), R.length < k → lv_has ls 4 [(3, va_rf (pp)), (2, va_rf (fnd)), (0, va_rf (some c9)), (1, .int (a))] → q_ch (S.R 0) pp (q_ad R) → P9 = A ++ R → (A = [] ∨ ∃ A1 x, A = A1 ++ [x] ∧ fnd = some x.1 ∧ (1 + q_sz A1 : Int) ≤ a.toInt) → W p l e ({ frames := 0, cells := 0, slots := 0, locals := 0 } : Room) s m [.ref c9, .int a].toArray below meth c s.heap [] (0) (0) (MQ below (va_Qq (post) (q_B E) E.A) [.ref c9, .int a].toArray s (0) (0) E.A) (F0 m 25 ls []) := by
    intro ha1 ha2 k
    induction k with
    | zero => intro pp fnd A R ls hk; exact absurd hk (Nat.not_lt_zero _)
    | succ k ih =>
      intro pp fnd A R ls hk hl hch hsp hfd
      refine q_aload_n (r := pp) C dX4_holding_25 rfl (lv_at hl 0 rfl) ?_
      refine q_ifnull (r := pp) (tgt := 47) C dX4_holding_26 (by decide) (fun c26 => ?_) (fun x26 c26 => ?_)
      · subst c26
        refine q_aload_n (r := fnd) C dX4_holding_47 rfl (lv_at hl 1 rfl) ?_
        refine q_aret (r := fnd) C hV hr hlk (Nat.le_of_ble_eq_true rfl) (Nat.le_of_ble_eq_true rfl) dX4_holding_48 ?_
        have hR : R = [] := by cases R with | nil => rfl | cons y t => exact nomatch hch.1
        subst hR
        rw [List.append_nil] at hsp
        rcases hfd with rfl | ⟨A1, x, rfl, rfl, hle⟩
        · rw [hsp] at hsz9; simp only [q_sz] at hsz9; omega
        · refine hpost _ _ ⟨rfl, Or.inr ⟨A1, x, [], hsp, rfl, ha1, hle, ?_⟩⟩
          rw [hsp, q_sz_app] at hsz9
          simp only [q_sz] at hsz9
          omega
      · subst c26
        obtain ⟨y, R9, rfl, hy, hch2⟩ : ∃ y R9, R = y :: R9 ∧ y.1 = x26 ∧ q_ch (S.R 0) (S.R 0 x26) (q_ad R9) := by
          cases R with
          | nil => exact nomatch (show some x26 = none from hch)
          | cons y t => have e := Option.some.inj hch.1; exact ⟨y, t, rfl, e.symm, by have h2 := hch.2; rw [← e] at h2; exact h2⟩
        subst hy
        have hyok := q_pok_at (S := S) (A := A) (B := R9) (x := y) (by rw [← hsp]; exact hpc9)
        obtain ⟨hL_y, hK_y, hAt, hCe, hFr, -⟩ := hyok
        have hszA : q_sz A + q_sz (y :: R9) = n9 := by rw [← q_sz_app, ← hsp]; exact hsz9
        refine q_aload_n (r := some y.1) C dX4_holding_29 rfl (lv_at hl 0 rfl) ?_
        refine g_Piece_at C hV hL_y hK_y (Or.inr ⟨_, wd_122⟩) dX4_holding_30 ?_
        refine q_ti (v' := nI (1 + q_sz A)) (hAt) ?_
        refine lv_iload_n C.1 C.2.1 dX4_holding_33 rfl (lv_at hl 3 rfl) ?_
        refine lv_icmp_gt (tgt := 47) C.1 C.2.1 dX4_holding_34 (by decide) (fun c34 => ?_) (fun c34 => ?_)
        · refine q_aload_n (r := fnd) C dX4_holding_47 rfl (lv_at hl 1 rfl) ?_
          refine q_aret (r := fnd) C hV hr hlk (Nat.le_of_ble_eq_true rfl) (Nat.le_of_ble_eq_true rfl) dX4_holding_48 ?_
          have hgt : a.toInt < 1 + q_sz A := by have h9 := q_i_lt.mp c34; rw [nI_toInt (by omega)] at h9; omega
          rcases hfd with rfl | ⟨A1, x, rfl, rfl, hle⟩
          · simp only [q_sz] at hgt; omega
          · refine hpost _ _ ⟨rfl, Or.inr ⟨A1, x, y :: R9, by rw [hsp]; simp [List.append_assoc], rfl, ha1, hle, ?_⟩⟩
            rw [q_sz_app] at hgt
            simp only [q_sz] at hgt
            omega
        · refine q_aload_n (r := some y.1) C dX4_holding_37 rfl (lv_at hl 0 rfl) ?_
          refine q_astore_n (r := some y.1) (lv' := [(2, va_rf (some y.1)), (3, va_rf (some y.1)), (0, va_rf (some c9)), (1, .int (a))]) C dX4_holding_38 rfl hl (by decide) (q_k0 (q_kN 0 rfl (by decide) (by decide) (q_kN 2 rfl (by decide) (by decide) (q_kC 3 rfl (by decide) rfl q_kz)))) (fun ls hl => ?_)
          refine q_aload_n (r := some y.1) C dX4_holding_39 rfl (lv_at hl 1 rfl) ?_
          refine g_Piece_behind C hV hL_y hK_y (Or.inr ⟨_, wd_131⟩) dX4_holding_40 ?_
          refine q_nr (fun r40 h40 => ?_)
          refine q_astore_n (r := r40) (lv' := [(3, va_rf (r40)), (2, va_rf (some y.1)), (0, va_rf (some c9)), (1, .int (a))]) C dX4_holding_43 rfl hl (by decide) (q_k0 (q_kC 0 rfl (by decide) (q_cat _) (q_kN 2 rfl (by decide) (by decide) (q_kN 3 rfl (by decide) (by decide) q_kz)))) (fun ls hl => ?_)
          refine lv_goto (tgt := 25) C.1 C.2.1 dX4_holding_44 (by decide) ?_
          subst h40
          exact ih (S.R 0 y.1) (some y.1) (A ++ [y]) R9 ls (by simp at hk; omega) hl hch2 (by rw [hsp]; simp [List.append_assoc]) (Or.inr ⟨A, y, rfl, rfl, by have h9 := q_i_le.mp (Int32.not_lt.mp c34); rw [nI_toInt (by omega)] at h9; omega⟩)
  refine lv_iload_n C.1 C.2.1 dX4_holding_0 rfl (lv_at hl 1 rfl) ?_
  refine lv_iconst (v := 1) C.1 C.2.1 dX4_holding_1 (by decide) ?_
  refine lv_icmp_lt (tgt := 13) C.1 C.2.1 dX4_holding_2 (by decide) (fun c2 => ?_) (fun c2 => ?_)
  · refine lv_null C.1 C.2.1 dX4_holding_13 ?_
    refine q_aret (r := none) C hV hr hlk (Nat.le_of_ble_eq_true rfl) (Nat.le_of_ble_eq_true rfl) dX4_holding_14 ?_
    refine hpost _ _ ⟨rfl, Or.inl ⟨?_, rfl⟩⟩
    first
      | (have h9 := q_i_lt.mp c2; rw [h1i] at h9; omega)
      | (have h9 := mt q_i_le.mpr c10; rw [hni] at h9; omega)
  · refine lv_iload_n C.1 C.2.1 dX4_holding_5 rfl (lv_at hl 1 rfl) ?_
    refine q_aload_n (r := some c9) C dX4_holding_6 rfl (lv_at hl 0 rfl) ?_
    refine g_Shelf_cellCount C hV hL_c9 hK_c9 (Or.inl wd_179) dX4_holding_7 ?_
    refine q_ti (v' := nI n9) (hn9) ?_
    refine lv_icmp_le (tgt := 15) C.1 C.2.1 dX4_holding_10 (by decide) (fun c10 => ?_) (fun c10 => ?_)
    · refine q_aload_n (r := some c9) C dX4_holding_15 rfl (lv_at hl 0 rfl) ?_
      refine g_Shelf_lowest C hV hL_c9 hK_c9 (Or.inl wd_178) dX4_holding_16 ?_
      refine q_nr (fun r16 h16 => ?_)
      refine q_astore_n (r := r16) (lv' := [(2, va_rf (r16)), (0, va_rf (some c9)), (1, .int (a))]) C dX4_holding_19 rfl hl (by decide) (q_k0 (q_kN 0 rfl (by decide) (by decide) (q_kC 1 rfl (by decide) rfl q_kz))) (fun ls hl => ?_)
      refine q_aload_n (r := some c9) C dX4_holding_20 rfl (lv_at hl 1 rfl) ?_
      refine g_Shelf_lowest C hV hL_c9 hK_c9 (Or.inl wd_178) dX4_holding_21 ?_
      refine q_nr (fun r21 h21 => ?_)
      refine q_astore_n (r := r21) (lv' := [(3, va_rf (r21)), (2, va_rf (r16)), (0, va_rf (some c9)), (1, .int (a))]) C dX4_holding_24 rfl hl (by decide) (q_k0 (q_kC 0 rfl (by decide) (q_cat _) (q_kN 1 rfl (by decide) (by decide) (q_kN 2 rfl (by decide) (by decide) q_kz)))) (fun ls hl => ?_)
      have ha1 : 1 ≤ a.toInt := by have h9 := mt q_i_lt.mpr c2; rw [h1i] at h9; omega
      have ha2 : a.toInt ≤ n9 := by have h9 := q_i_le.mp c10; rw [hni] at h9; omega
      exact loop ha1 ha2 (P9.length + 1) r21 r16 [] P9 ls (Nat.lt_succ_self _) hl (by rw [h21]; exact hch9) rfl (Or.inl rfl)
    · refine lv_null C.1 C.2.1 dX4_holding_13 ?_
      refine q_aret (r := none) C hV hr hlk (Nat.le_of_ble_eq_true rfl) (Nat.le_of_ble_eq_true rfl) dX4_holding_14 ?_
      refine hpost _ _ ⟨rfl, Or.inl ⟨?_, rfl⟩⟩
      first
        | (have h9 := q_i_lt.mp c2; rw [h1i] at h9; omega)
        | (have h9 := mt q_i_le.mpr c10; rw [hni] at h9; omega)
theorem c_Shelf_holding (l : Launch) (E : qE) (S : qS) (c9 n9 : Nat) (P9 : List q_X) (hln : q_line S c9 n9 P9) (hn1 : 1 ≤ n9) (a : Int32) : q_Mq l yX4_holding cX4_holding 4 (.object "ChunkShelf$Piece") { frames := 0, cells := 0, slots := 0, locals := 0 } E [.ref c9, .int a] S (fun r S1 => S1 = S ∧ (((a.toInt < 1 ∨ n9 < a.toInt) ∧ r = none) ∨ ∃ A x B, P9 = A ++ x :: B ∧ r = some x.1 ∧ 1 ≤ a.toInt ∧ (1 + q_sz A : Int) ≤ a.toInt ∧ a.toInt < 1 + q_sz A + x.2.1)) 0 0 := c0_Shelf_holding l E S c9 n9 P9 hln hn1 a _ (fun _ _ h => h)
end
section
/-- a piece begins at a, or none does -/
def q_beg (P : List q_X) (a : Int) (r : Option Nat) : Prop := (r = none ∧ ∀ A x B, P = A ++ x :: B → a ≠ 1 + q_sz A) ∨ ∃ A x B, P = A ++ x :: B ∧ r = some x.1 ∧ a = 1 + q_sz A
def v_piece (V : List (Nat × Bool × Nat)) (a : Int) (r : Int32) : Prop := (r = 0 ∧ ∀ A x B, V = A ++ x :: B → a ≠ 1 + v_sz A) ∨ ∃ A x B, V = A ++ x :: B ∧ a = 1 + v_sz A ∧ r = if x.2.1 = true then -nI x.1 else nI x.1
def v_cover (V : List (Nat × Bool × Nat)) (a : Int) (r : Int32) : Prop := (r = 0 ∧ (a < 1 ∨ v_sz V < a)) ∨ ∃ A x B, V = A ++ x :: B ∧ 1 + v_sz A ≤ a ∧ a < 1 + v_sz A + x.1 ∧ r = nI (1 + v_sz A)
/-- a split of the values is one of the pieces -/
theorem q_vl_split {P : List q_X} {A B : List (Nat × Bool × Nat)} {x : Nat × Bool × Nat} (h : q_vl P = A ++ x :: B) : ∃ A1 x1 B1, P = A1 ++ x1 :: B1 ∧ q_vl A1 = A ∧ x1.2 = x ∧ q_vl B1 = B := by
  obtain ⟨A1, R, h1, h2, h3⟩ := List.map_eq_append_iff.mp h
  obtain ⟨x1, B1, h4, h5, h6⟩ := List.map_eq_cons_iff.mp h3
  exact ⟨A1, x1, B1, by rw [h1, h4], h2, h5, h6⟩
theorem q_vl_app (A B : List q_X) (x : q_X) : q_vl (A ++ x :: B) = q_vl A ++ x.2 :: q_vl B := by simp [q_vl]
set_option maxHeartbeats 4000000 in
set_option maxRecDepth 100000 in
theorem c0_Shelf_beginningAt (l : Launch) (E : qE) (S : qS) (c9 n9 : Nat) (P9 : List q_X) (hln : q_line S c9 n9 P9) (hn1 : 1 ≤ n9) (a : Int32) (post : Option Nat → qS → Prop) (hpost : ∀ r S1, (S1 = S ∧ q_beg P9 a.toInt r) → post r S1) : q_Mq l yX4_beginningAt cX4_beginningAt 3 (.object "ChunkShelf$Piece") { frames := 1, cells := 0, slots := 0, locals := 23 } E [.ref c9, .int a] S (post) 0 0 := by
  refine q_ofW1 (by decide) (q_1c rfl (q_1c rfl q_1n)) (Nat.le_of_ble_eq_true rfl) (fun p e s m below meth c C hV hr hlk hnm ls hl => ?_)
  have hl : lv_has ls 3 [(0, va_rf (some c9)), (1, .int (a))] := hl
  obtain ⟨hL_c9, hK_c9, hn9, hch9, hpc9, hsz9, hle9, hpos9⟩ := id hln
  refine q_aload_n (r := some c9) C dX4_beginningAt_0 rfl (lv_at hl 0 rfl) ?_
  refine lv_iload_n C.1 C.2.1 dX4_beginningAt_1 rfl (lv_at hl 1 rfl) ?_
  refine q_cq hV (q_rV (b := c9) (As := [.int (a)]) (rest := []) C hV (c_Shelf_holding l E S c9 n9 P9 hln hn1 a) wd_229 wd_226 wd_228 wd_14 wd_37 ok_X4_holding ⟨rfl, rfl, Nat.le_of_ble_eq_true rfl, Nat.le_of_ble_eq_true rfl⟩ (q_rc4 hV hL_c9 hK_c9) rfl hl.1 rfl (q_sm q_1n (Nat.le_of_ble_eq_true rfl)) dX4_beginningAt_2 ⟨Nat.le_of_ble_eq_true rfl, Nat.le_of_ble_eq_true rfl⟩) (fun r2 S2 H locs hp2 hV => ?_)
  obtain ⟨eS2, hp2⟩ := hp2
  rw [eS2] at hV
  refine q_astore_n (r := r2) (lv' := [(2, va_rf (r2)), (0, va_rf (some c9)), (1, .int (a))]) C dX4_beginningAt_5 rfl hl (by decide) (q_k0 (q_kN 0 rfl (by decide) (by decide) (q_kC 1 rfl (by decide) rfl q_kz))) (fun ls hl => ?_)
  refine q_aload_n (r := r2) C dX4_beginningAt_6 rfl (lv_at hl 0 rfl) ?_
  refine q_ifnull (r := r2) (tgt := 22) C dX4_beginningAt_7 (by decide) (fun c7 => ?_) (fun x7 c7 => ?_)
  · subst c7
    refine lv_null C.1 C.2.1 dX4_beginningAt_22 ?_
    refine q_aret (r := none) C hV hr hlk (Nat.le_of_ble_eq_true rfl) (Nat.le_of_ble_eq_true rfl) dX4_beginningAt_23 ?_
    refine hpost _ _ ⟨rfl, Or.inl ⟨rfl, fun A x B h9 => ?_⟩⟩
    rcases hp2 with ⟨h8, -⟩ | ⟨A1, x1, B1, -, h8, -⟩
    · have h7 := hsz9
      rw [h9, q_sz_app] at h7
      simp only [q_sz] at h7
      have h6 := hpos9 x (by rw [h9]; simp)
      omega
    · exact nomatch h8
  · subst c7
    obtain ⟨A9, y, B9, hsp, hy, ha1, hb1, hb2⟩ : ∃ A x B, P9 = A ++ x :: B ∧ x.1 = x7 ∧ 1 ≤ a.toInt ∧ (1 + q_sz A : Int) ≤ a.toInt ∧ a.toInt < 1 + q_sz A + x.2.1 := by
      rcases hp2 with ⟨-, h8⟩ | ⟨A1, x1, B1, h9, h8, h7, h6, h5⟩
      · exact nomatch h8
      · exact ⟨A1, x1, B1, h9, (Option.some.inj h8).symm, h7, h6, h5⟩
    subst hy
    have hszA : q_sz A9 + (y.2.1 + q_sz B9) = n9 := by rw [← hsz9, hsp, q_sz_app]; rfl
    obtain ⟨hL_y, hK_y, hAt, hCe, hFr, -⟩ := q_pok_at (S := S) (A := A9) (B := B9) (x := y) (by rw [← hsp]; exact hpc9)
    refine q_aload_n (r := some y.1) C dX4_beginningAt_10 rfl (lv_at hl 0 rfl) ?_
    refine g_Piece_at C hV hL_y hK_y (Or.inr ⟨_, wd_122⟩) dX4_beginningAt_11 ?_
    refine q_ti (v' := nI (1 + q_sz A9)) (hAt) ?_
    refine lv_iload_n C.1 C.2.1 dX4_beginningAt_14 rfl (lv_at hl 2 rfl) ?_
    refine lv_icmp_ne (tgt := 22) C.1 C.2.1 dX4_beginningAt_15 (by decide) (fun c15 => ?_) (fun c15 => ?_)
    · refine lv_null C.1 C.2.1 dX4_beginningAt_22 ?_
      refine q_aret (r := none) C hV hr hlk (Nat.le_of_ble_eq_true rfl) (Nat.le_of_ble_eq_true rfl) dX4_beginningAt_23 ?_
      refine hpost _ _ ⟨rfl, Or.inl ⟨rfl, fun A x B h9 e9 => ?_⟩⟩
      have h6 := hpos9 x (by rw [h9]; simp)
      obtain ⟨e1, e2, e3⟩ := q_in_uniq (v := q_sz A) (hsp.symm.trans h9) (by omega) (by omega) (by omega) (by omega)
      subst e1
      exact c15 (q_i_eq.mpr (by rw [nI_toInt (by have := hszA; omega)]; omega))
    · refine q_aload_n (r := some y.1) C dX4_beginningAt_18 rfl (lv_at hl 0 rfl) ?_
      refine lv_goto (tgt := 23) C.1 C.2.1 dX4_beginningAt_19 (by decide) ?_
      refine q_aret (r := some y.1) C hV hr hlk (Nat.le_of_ble_eq_true rfl) (Nat.le_of_ble_eq_true rfl) dX4_beginningAt_23 ?_
      have h7 := q_i_eq.mp c15
      rw [nI_toInt (by have := hszA; omega)] at h7
      exact hpost _ _ ⟨rfl, Or.inr ⟨A9, y, B9, hsp, rfl, by omega⟩⟩
theorem c_Shelf_beginningAt (l : Launch) (E : qE) (S : qS) (c9 n9 : Nat) (P9 : List q_X) (hln : q_line S c9 n9 P9) (hn1 : 1 ≤ n9) (a : Int32) : q_Mq l yX4_beginningAt cX4_beginningAt 3 (.object "ChunkShelf$Piece") { frames := 1, cells := 0, slots := 0, locals := 23 } E [.ref c9, .int a] S (fun r S1 => S1 = S ∧ q_beg P9 a.toInt r) 0 0 := c0_Shelf_beginningAt l E S c9 n9 P9 hln hn1 a _ (fun _ _ h => h)

set_option maxHeartbeats 4000000 in
set_option maxRecDepth 100000 in
theorem c0_Shelf_piece (l : Launch) (E : qE) (S : qS) (c9 n9 : Nat) (P9 : List q_X) (hln : q_line S c9 n9 P9) (hn1 : 1 ≤ n9) (a : Int32) (post : Int32 → qS → Prop) (hpost : ∀ r S1, (S1 = S ∧ v_piece (q_vl P9) a.toInt r) → post r S1) : q_Mi l yX4_piece cX4_piece 3 .int { frames := 2, cells := 0, slots := 0, locals := 45 } E [.ref c9, .int a] S (post) 0 0 := by
  refine q_ofW1 (by decide) (q_1c rfl (q_1c rfl q_1n)) (Nat.le_of_ble_eq_true rfl) (fun p e s m below meth c C hV hr hlk hnm ls hl => ?_)
  have hl : lv_has ls 3 [(0, va_rf (some c9)), (1, .int (a))] := hl
  obtain ⟨hL_c9, hK_c9, hn9, hch9, hpc9, hsz9, hle9, hpos9⟩ := id hln
  refine q_aload_n (r := some c9) C dX4_piece_0 rfl (lv_at hl 0 rfl) ?_
  refine lv_iload_n C.1 C.2.1 dX4_piece_1 rfl (lv_at hl 1 rfl) ?_
  refine q_cq hV (q_rV (b := c9) (As := [.int (a)]) (rest := []) C hV (c_Shelf_beginningAt l E S c9 n9 P9 hln hn1 a) wd_225 wd_222 wd_224 wd_13 wd_37 ok_X4_beginningAt ⟨rfl, rfl, Nat.le_of_ble_eq_true rfl, Nat.le_of_ble_eq_true rfl⟩ (q_rc4 hV hL_c9 hK_c9) rfl hl.1 rfl (q_sm q_1n (Nat.le_of_ble_eq_true rfl)) dX4_piece_2 ⟨Nat.le_of_ble_eq_true rfl, Nat.le_of_ble_eq_true rfl⟩) (fun r2 S2 H locs hp2 hV => ?_)
  obtain ⟨eS2, hp2⟩ := hp2
  rw [eS2] at hV
  refine q_astore_n (r := r2) (lv' := [(2, va_rf (r2)), (0, va_rf (some c9)), (1, .int (a))]) C dX4_piece_5 rfl hl (by decide) (q_k0 (q_kN 0 rfl (by decide) (by decide) (q_kC 1 rfl (by decide) rfl q_kz))) (fun ls hl => ?_)
  refine q_aload_n (r := r2) C dX4_piece_6 rfl (lv_at hl 0 rfl) ?_
  refine q_ifnonnull (r := r2) (tgt := 12) C dX4_piece_7 (by decide) (fun x7 c7 => ?_) (fun c7 => ?_)
  · subst c7
    obtain ⟨A9, y, B9, hsp, hy, ha9⟩ : ∃ A x B, P9 = A ++ x :: B ∧ x.1 = x7 ∧ a.toInt = 1 + q_sz A := by
      rcases hp2 with ⟨h8, -⟩ | ⟨A1, x1, B1, h9, h8, h7⟩
      · exact nomatch h8
      · exact ⟨A1, x1, B1, h9, (Option.some.inj h8).symm, h7⟩
    subst hy
    obtain ⟨hL_y, hK_y, hAt, hCe, hFr, -⟩ := q_pok_at (S := S) (A := A9) (B := B9) (x := y) (by rw [← hsp]; exact hpc9)
    refine q_aload_n (r := some y.1) C dX4_piece_12 rfl (lv_at hl 0 rfl) ?_
    refine g_Piece_isFree C hV hL_y hK_y (Or.inr ⟨_, wd_127⟩) dX4_piece_13 ?_
    refine q_ti (v' := q_fl y.2.2.1) (hFr) ?_
    refine lv_if_eq (tgt := 27) C.1 C.2.1 dX4_piece_16 (by decide) (fun c16 => ?_) (fun c16 => ?_)
    · refine q_aload_n (r := some y.1) C dX4_piece_27 rfl (lv_at hl 0 rfl) ?_
      refine g_Piece_cells C hV hL_y hK_y (Or.inr ⟨_, wd_124⟩) dX4_piece_28 ?_
      refine q_ti (v' := nI y.2.1) (hCe) ?_
      refine q_iret (v := nI y.2.1) C hV hr hlk (Nat.le_of_ble_eq_true rfl) (Nat.le_of_ble_eq_true rfl) dX4_piece_31 ?_
      refine hpost _ _ ⟨rfl, Or.inr ⟨q_vl A9, y.2, q_vl B9, by rw [hsp, q_vl_app], by rw [v_sz_vl]; exact ha9, ?_⟩⟩
      rw [if_neg (by rw [q_fl0.mp c16]; decide)]
    · refine q_aload_n (r := some y.1) C dX4_piece_19 rfl (lv_at hl 0 rfl) ?_
      refine g_Piece_cells C hV hL_y hK_y (Or.inr ⟨_, wd_124⟩) dX4_piece_20 ?_
      refine q_ti (v' := nI y.2.1) (hCe) ?_
      refine lv_ineg C.1 C.2.1 dX4_piece_23 ?_
      refine lv_goto (tgt := 31) C.1 C.2.1 dX4_piece_24 (by decide) ?_
      refine q_iret (v := -(nI y.2.1)) C hV hr hlk (Nat.le_of_ble_eq_true rfl) (Nat.le_of_ble_eq_true rfl) dX4_piece_31 ?_
      refine hpost _ _ ⟨rfl, Or.inr ⟨q_vl A9, y.2, q_vl B9, by rw [hsp, q_vl_app], by rw [v_sz_vl]; exact ha9, ?_⟩⟩
      have hbt : y.2.2.1 = true := by cases hbb : y.2.2.1 with | true => rfl | false => exact absurd (show q_fl y.2.2.1 = 0 by rw [hbb]; rfl) c16
      rw [if_pos hbt]
  · subst c7
    refine lv_iconst (v := 0) C.1 C.2.1 dX4_piece_10 (by decide) ?_
    refine q_iret (v := 0) C hV hr hlk (Nat.le_of_ble_eq_true rfl) (Nat.le_of_ble_eq_true rfl) dX4_piece_11 ?_
    refine hpost _ _ ⟨rfl, Or.inl ⟨rfl, fun A x B h9 => ?_⟩⟩
    obtain ⟨A1, x1, B1, h8, h7, -, -⟩ := q_vl_split h9
    rcases hp2 with ⟨-, h6⟩ | ⟨A2, x2, B2, -, h6, -⟩
    · rw [← h7, v_sz_vl]; exact h6 A1 x1 B1 h8
    · exact nomatch h6
theorem c_Shelf_piece (l : Launch) (E : qE) (S : qS) (c9 n9 : Nat) (P9 : List q_X) (hln : q_line S c9 n9 P9) (hn1 : 1 ≤ n9) (a : Int32) : q_Mi l yX4_piece cX4_piece 3 .int { frames := 2, cells := 0, slots := 0, locals := 45 } E [.ref c9, .int a] S (fun r S1 => S1 = S ∧ v_piece (q_vl P9) a.toInt r) 0 0 := c0_Shelf_piece l E S c9 n9 P9 hln hn1 a _ (fun _ _ h => h)

set_option maxHeartbeats 4000000 in
set_option maxRecDepth 100000 in
theorem c0_Shelf_cover (l : Launch) (E : qE) (S : qS) (c9 n9 : Nat) (P9 : List q_X) (hln : q_line S c9 n9 P9) (hn1 : 1 ≤ n9) (a : Int32) (post : Int32 → qS → Prop) (hpost : ∀ r S1, (S1 = S ∧ v_cover (q_vl P9) a.toInt r) → post r S1) : q_Mi l yX4_cover cX4_cover 3 .int { frames := 1, cells := 0, slots := 0, locals := 23 } E [.ref c9, .int a] S (post) 0 0 := by
  refine q_ofW1 (by decide) (q_1c rfl (q_1c rfl q_1n)) (Nat.le_of_ble_eq_true rfl) (fun p e s m below meth c C hV hr hlk hnm ls hl => ?_)
  have hl : lv_has ls 3 [(0, va_rf (some c9)), (1, .int (a))] := hl
  obtain ⟨hL_c9, hK_c9, hn9, hch9, hpc9, hsz9, hle9, hpos9⟩ := id hln
  refine q_aload_n (r := some c9) C dX4_cover_0 rfl (lv_at hl 0 rfl) ?_
  refine lv_iload_n C.1 C.2.1 dX4_cover_1 rfl (lv_at hl 1 rfl) ?_
  refine q_cq hV (q_rV (b := c9) (As := [.int (a)]) (rest := []) C hV (c_Shelf_holding l E S c9 n9 P9 hln hn1 a) wd_229 wd_226 wd_228 wd_14 wd_37 ok_X4_holding ⟨rfl, rfl, Nat.le_of_ble_eq_true rfl, Nat.le_of_ble_eq_true rfl⟩ (q_rc4 hV hL_c9 hK_c9) rfl hl.1 rfl (q_sm q_1n (Nat.le_of_ble_eq_true rfl)) dX4_cover_2 ⟨Nat.le_of_ble_eq_true rfl, Nat.le_of_ble_eq_true rfl⟩) (fun r2 S2 H locs hp2 hV => ?_)
  obtain ⟨eS2, hp2⟩ := hp2
  rw [eS2] at hV
  refine q_astore_n (r := r2) (lv' := [(2, va_rf (r2)), (0, va_rf (some c9)), (1, .int (a))]) C dX4_cover_5 rfl hl (by decide) (q_k0 (q_kN 0 rfl (by decide) (by decide) (q_kC 1 rfl (by decide) rfl q_kz))) (fun ls hl => ?_)
  refine q_aload_n (r := r2) C dX4_cover_6 rfl (lv_at hl 0 rfl) ?_
  refine q_ifnonnull (r := r2) (tgt := 14) C dX4_cover_7 (by decide) (fun x7 c7 => ?_) (fun c7 => ?_)
  · subst c7
    obtain ⟨A9, y, B9, hsp, hy, hb1, hb2⟩ : ∃ A x B, P9 = A ++ x :: B ∧ x.1 = x7 ∧ (1 + q_sz A : Int) ≤ a.toInt ∧ a.toInt < 1 + q_sz A + x.2.1 := by
      rcases hp2 with ⟨-, h8⟩ | ⟨A1, x1, B1, h9, h8, h7, h6, h5⟩
      · exact nomatch h8
      · exact ⟨A1, x1, B1, h9, (Option.some.inj h8).symm, h6, h5⟩
    subst hy
    obtain ⟨hL_y, hK_y, hAt, hCe, hFr, -⟩ := q_pok_at (S := S) (A := A9) (B := B9) (x := y) (by rw [← hsp]; exact hpc9)
    refine q_aload_n (r := some y.1) C dX4_cover_14 rfl (lv_at hl 0 rfl) ?_
    refine g_Piece_at C hV hL_y hK_y (Or.inr ⟨_, wd_122⟩) dX4_cover_15 ?_
    refine q_ti (v' := nI (1 + q_sz A9)) (hAt) ?_
    refine q_iret (v := nI (1 + q_sz A9)) C hV hr hlk (Nat.le_of_ble_eq_true rfl) (Nat.le_of_ble_eq_true rfl) dX4_cover_18 ?_
    exact hpost _ _ ⟨rfl, Or.inr ⟨q_vl A9, y.2, q_vl B9, by rw [hsp, q_vl_app], by rw [v_sz_vl]; exact hb1, by rw [v_sz_vl]; exact hb2, by rw [v_sz_vl]⟩⟩
  · subst c7
    refine lv_iconst (v := 0) C.1 C.2.1 dX4_cover_10 (by decide) ?_
    refine lv_goto (tgt := 18) C.1 C.2.1 dX4_cover_11 (by decide) ?_
    refine q_iret (v := 0) C hV hr hlk (Nat.le_of_ble_eq_true rfl) (Nat.le_of_ble_eq_true rfl) dX4_cover_18 ?_
    rcases hp2 with ⟨h8, -⟩ | ⟨A1, x1, B1, -, h8, -⟩
    · exact hpost _ _ ⟨rfl, Or.inl ⟨rfl, by rw [v_sz_vl, hsz9]; exact h8⟩⟩
    · exact nomatch h8
theorem c_Shelf_cover (l : Launch) (E : qE) (S : qS) (c9 n9 : Nat) (P9 : List q_X) (hln : q_line S c9 n9 P9) (hn1 : 1 ≤ n9) (a : Int32) : q_Mi l yX4_cover cX4_cover 3 .int { frames := 1, cells := 0, slots := 0, locals := 23 } E [.ref c9, .int a] S (fun r S1 => S1 = S ∧ v_cover (q_vl P9) a.toInt r) 0 0 := c0_Shelf_cover l E S c9 n9 P9 hln hn1 a _ (fun _ _ h => h)
end
section
/-! THE CLASS: pieces, shelves, and how they belong together -/
def q_rws (S : qS) (P : List q_X) (rows : Nat → List Nat) : Prop := (∀ z a, a ∈ rows z ↔ 3 ≤ z ∧ ∃ x ∈ P, x.1 = a ∧ x.2.1 = z ∧ x.2.2.1 = true) ∧ ∀ z, (rows z).Pairwise (fun a b => (S.J 0 b).toInt < (S.J 0 a).toInt)
def q_C (S : qS) (c n fails now : Nat) (P : List q_X) (h ar t : Nat) (ns : List Nat) (rows : Nat → List Nat) : Prop :=
  q_line S c n P ∧ S.R 8 c = some h ∧ S.I 6 c = nI fails ∧ q_sh S h ar t ns rows ∧ q_ne S ns rows ∧ S.J 1 h = lN now ∧ q_rws S P rows ∧ (∀ x ∈ P, x.2.2.1 = true → x.2.2.2 < now) ∧ now < 2 ^ 40 ∧ 1 ≤ n
theorem q_ad_app (A B : List q_X) (x : q_X) : q_ad (A ++ x :: B) = q_ad A ++ x.1 :: q_ad B := by simp [q_ad]
theorem q_line_nd {S : qS} {c n : Nat} {P : List q_X} (h : q_line S c n P) : (q_ad P).Nodup := q_ch_nodup h.2.2.2.1
theorem q_nd_mid {A B : List q_X} {x : q_X} (h : (q_ad (A ++ x :: B)).Nodup) : ∀ y ∈ A ++ B, y.1 ≠ x.1 := by
  rw [q_ad_app] at h
  have h1 := List.nodup_append.mp h
  intro y hy e
  rcases List.mem_append.mp hy with hy | hy
  · exact h1.2.2 y.1 (List.mem_map.mpr ⟨y, hy, rfl⟩) x.1 List.mem_cons_self e
  · exact (List.nodup_cons.mp h1.2.1).1 (by rw [← e]; exact List.mem_map.mpr ⟨y, hy, rfl⟩)
theorem q_pok_fr {S S' : qS} {a : Nat} {y : q_X} {cI cR cJ : Nat → Nat → Prop} (h : q_pok S a y) (hf : q_fr S S' cI cR cJ) (h0 : ¬ cI 0 y.1) (h1 : ¬ cI 1 y.1) (h2 : ¬ cI 2 y.1) (h3 : ¬ cJ 0 y.1) : q_pok S' a y := by
  obtain ⟨g1, g2, g3, g4, g5, g6⟩ := h
  exact ⟨(hf.1 y.1 g1).1, (hf.1 y.1 g1).2.1.trans g2, (hf.2.1 y.1 g1 0 h0).trans g3, (hf.2.1 y.1 g1 1 h1).trans g4, (hf.2.1 y.1 g1 2 h2).trans g5, fun e => (hf.2.2.2 y.1 g1 0 h3).trans (g6 e)⟩
theorem q_pcs_fr {S S' : qS} {cI cR cJ : Nat → Nat → Prop} (hf : q_fr S S' cI cR cJ) : ∀ {P : List q_X} {a : Nat}, q_pcs S a P → (∀ y ∈ P, ¬ cI 0 y.1 ∧ ¬ cI 1 y.1 ∧ ¬ cI 2 y.1 ∧ ¬ cJ 0 y.1) → q_pcs S' a P := by
  intro P
  induction P with
  | nil => intro a _ _; trivial
  | cons y P ih =>
    intro a h hn
    have h1 := hn y List.mem_cons_self
    exact ⟨q_pok_fr h.1 hf h1.1 h1.2.1 h1.2.2.1 h1.2.2.2, ih h.2 (fun z hz => hn z (List.mem_cons_of_mem _ hz))⟩
theorem q_sz_mid (A B : List q_X) (x x' : q_X) (h : x'.2.1 = x.2.1) : q_sz (A ++ x' :: B) = q_sz (A ++ x :: B) := by
  rw [q_sz_app, q_sz_app]; simp only [q_sz]; rw [h]
/-- one piece changes its flag and its time -/
theorem q_line_flag {S S' : qS} {c n : Nat} {A B : List q_X} {x : q_X} {b : Bool} {tm : Nat} {cI cR cJ : Nat → Nat → Prop} (h : q_line S c n (A ++ x :: B)) (hf : q_fr S S' cI cR cJ) (hI : ∀ j a, cI j a → j = 2 ∧ a = x.1) (hR : ∀ j a, cR j a → j ≠ 0 ∧ j ≠ 9) (hJ : ∀ a, cJ 0 a → a = x.1)
    (hfl : S'.I 2 x.1 = q_fl b) (hti : b = true → S'.J 0 x.1 = lN (tm + 1)) : q_line S' c n (A ++ (x.1, x.2.1, b, tm) :: B) := by
  have hnd := q_nd_mid (q_line_nd h)
  obtain ⟨h1, h2, h3, h4, h5, h6, h7, h8⟩ := h
  have hadd : q_ad (A ++ (x.1, x.2.1, b, tm) :: B) = q_ad (A ++ x :: B) := by rw [q_ad_app, q_ad_app]
  have hmem : ∀ y ∈ A ++ x :: B, y.1 ∈ S.L := fun y hy => by obtain ⟨a, ha⟩ := q_pcs_mem h5 hy; exact ha.1
  have hn : ∀ y ∈ A ++ B, ¬ cI 0 y.1 ∧ ¬ cI 1 y.1 ∧ ¬ cI 2 y.1 ∧ ¬ cJ 0 y.1 := fun y hy => ⟨fun z => absurd (hI 0 y.1 z).1 (by decide), fun z => absurd (hI 1 y.1 z).1 (by decide), fun z => hnd y hy (hI 2 y.1 z).2, fun z => hnd y hy (hJ y.1 z)⟩
  obtain ⟨hA, hx, hB⟩ := q_pcs_app.mp h5
  refine ⟨(hf.1 c h1).1, (hf.1 c h1).2.1.trans h2, (hf.2.1 c h1 5 (fun z => absurd (hI 5 c z).1 (by decide))).trans h3, ?_, q_pcs_app.mpr ⟨q_pcs_fr hf hA (fun y hy => hn y (List.mem_append_left _ hy)), ?_, q_pcs_fr hf hB (fun y hy => hn y (List.mem_append_right _ hy))⟩, ?_, h7, fun y hy => ?_⟩
  · rw [hadd, hf.2.2.1 c h1 9 (fun z => (hR 9 c z).2 rfl)]
    refine q_ch_congr (fun a ha => ?_) h4
    obtain ⟨y, hy, rfl⟩ := List.mem_map.mp ha
    exact hf.2.2.1 y.1 (hmem y hy) 0 (fun z => (hR 0 y.1 z).1 rfl)
  · obtain ⟨g1, g2, g3, g4, -, -⟩ := hx
    exact ⟨(hf.1 x.1 g1).1, (hf.1 x.1 g1).2.1.trans g2, (hf.2.1 x.1 g1 0 (fun z => absurd (hI 0 x.1 z).1 (by decide))).trans g3, (hf.2.1 x.1 g1 1 (fun z => absurd (hI 1 x.1 z).1 (by decide))).trans g4, hfl, hti⟩
  · rw [q_sz_mid A B x (x.1, x.2.1, b, tm) rfl]; exact h6
  · simp only [List.mem_append, List.mem_cons] at hy
    rcases hy with hy | rfl | hy
    · exact h8 y (by simp [hy])
    · exact h8 x (by simp)
    · exact h8 y (by simp [hy])
theorem q_mem_mid {A B : List q_X} {x x' : q_X} : ∀ y, y ∈ A ++ x' :: B ↔ y = x' ∨ y ∈ A ++ B := by
  intro y
  simp only [List.mem_append, List.mem_cons]
  constructor
  · rintro (h | h | h) <;> simp [h]
  · rintro (h | h | h) <;> simp [h]
theorem q_rws_nd {S : qS} {P : List q_X} {rows : Nat → List Nat} (h : q_rws S P rows) (z : Nat) : (rows z).Nodup := by
  refine List.Pairwise.imp ?_ (h.2 z)
  intro a b hab e
  subst e
  omega
theorem q_lI {t : Nat} (h : t < 2 ^ 60) : (lN t).toInt = (t : Int) := pk_lT (by omega)
/-- what pullOut leaves -/
theorem q_C_pull {S S1 : qS} {c n fails now : Nat} {A B : List q_X} {x : q_X} {h ar t : Nat} {ns ns1 : List Nat} {rows : Nat → List Nat} (hC : q_C S c n fails now (A ++ x :: B) h ar t ns rows) (hx : x.2.2.1 = true)
    (h1 : q_sh S1 h ar t ns1 (if 3 ≤ x.2.1 then va_up rows x.2.1 ((rows x.2.1).erase x.1) else rows)) (h2 : q_ne S1 ns1 (if 3 ≤ x.2.1 then va_up rows x.2.1 ((rows x.2.1).erase x.1) else rows)) (hf : q_fr S S1 (q_cPI x.1) (q_cOR (rows x.2.1)) q_c0) (h3 : S1.I 2 x.1 = 0) :
    ∃ rows1, q_C S1 c n fails now (A ++ (x.1, x.2.1, false, x.2.2.2) :: B) h ar t ns1 rows1 := by
  obtain ⟨c1, c2, c3, c4, c5, c6, c7, c8, c9, c10⟩ := hC
  have hnd := q_nd_mid (q_line_nd c1)
  have hR : ∀ j a, q_cOR (rows x.2.1) j a → j ≠ 0 ∧ j ≠ 9 ∧ j ≠ 8 := by
    intro j a z
    rcases z with ⟨z, -⟩ | z | z | z | z <;> subst z <;> decide
  have hx3 : 3 ≤ x.2.1 → x.1 ∈ rows x.2.1 := fun h9 => (c7.1 x.2.1 x.1).mpr ⟨h9, x, by simp, rfl, rfl, hx⟩
  refine ⟨_, q_line_flag c1 hf (fun j a z => z) (fun j a z => ⟨(hR j a z).1, (hR j a z).2.1⟩) (fun a z => z.elim) h3 (fun e => nomatch e), (hf.2.2.1 c c1.1 8 (fun z => (hR 8 c z).2.2 rfl)).trans c2, (hf.2.1 c c1.1 6 (fun z => absurd z.1 (by decide))).trans c3, h1, h2, (hf.2.2.2 h c4.1.1 1 (fun z => z)).trans c6, ?_, ?_, c9, c10⟩
  · constructor
    · intro z a
      have key : (∃ y ∈ A ++ (x.1, x.2.1, false, x.2.2.2) :: B, y.1 = a ∧ y.2.1 = z ∧ y.2.2.1 = true) ↔ (∃ y ∈ A ++ x :: B, y.1 = a ∧ y.2.1 = z ∧ y.2.2.1 = true) ∧ a ≠ x.1 := by
        constructor
        · rintro ⟨y, hy, e1, e2, e3⟩
          rcases (q_mem_mid (x := x) y).mp hy with rfl | hy
          · exact nomatch e3
          · exact ⟨⟨y, (q_mem_mid (x := x) y).mpr (Or.inr hy), e1, e2, e3⟩, by rw [← e1]; exact hnd y hy⟩
        · rintro ⟨⟨y, hy, e1, e2, e3⟩, hne⟩
          rcases (q_mem_mid (x := x) y).mp hy with rfl | hy
          · exact absurd e1.symm hne
          · exact ⟨y, (q_mem_mid (x := x) y).mpr (Or.inr hy), e1, e2, e3⟩
      rw [key]
      by_cases h9 : 3 ≤ x.2.1
      · rw [if_pos h9]
        by_cases hz : z = x.2.1
        · subst hz
          rw [va_up_self, (q_rws_nd c7 _).mem_erase_iff, c7.1]
          exact ⟨fun ⟨e1, e2, e3⟩ => ⟨e2, e3, e1⟩, fun ⟨e1, e2, e3⟩ => ⟨e3, e1, e2⟩⟩
        · rw [va_up_ne _ _ hz, c7.1]
          refine ⟨fun ⟨e1, e2⟩ => ⟨e1, e2, fun e => ?_⟩, fun ⟨e1, e2, _⟩ => ⟨e1, e2⟩⟩
          obtain ⟨y, hy, f1, f2, -⟩ := e2
          rcases (q_mem_mid (x := x) y).mp hy with rfl | hy
          · exact hz f2.symm
          · exact hnd y hy (f1.trans e)
      · rw [if_neg h9, c7.1]
        refine ⟨fun ⟨e1, e2⟩ => ⟨e1, e2, fun e => ?_⟩, fun ⟨e1, e2, _⟩ => ⟨e1, e2⟩⟩
        obtain ⟨y, hy, f1, f2, -⟩ := e2
        rcases (q_mem_mid (x := x) y).mp hy with rfl | hy
        · exact h9 (by omega)
        · exact hnd y hy (f1.trans e)
    · intro z
      have hJ : ∀ a ∈ rows z, S1.J 0 a = S.J 0 a := fun a ha => hf.2.2.2 a (c4.2.2.2.2.2.2 z a ha).1 0 (fun z => z)
      have hp : (rows z).Pairwise (fun a b => (S1.J 0 b).toInt < (S1.J 0 a).toInt) := by
        refine List.Pairwise.imp_of_mem ?_ (c7.2 z)
        intro a b ha hb hab
        rw [hJ a ha, hJ b hb]; exact hab
      by_cases h9 : 3 ≤ x.2.1
      · rw [if_pos h9]
        by_cases hz : z = x.2.1
        · subst hz
          rw [va_up_self]
          exact List.Pairwise.sublist List.erase_sublist hp
        · rw [va_up_ne _ _ hz]; exact hp
      · rw [if_neg h9]; exact hp
  · intro y hy
    rcases (q_mem_mid (x := x) y).mp hy with rfl | hy
    · intro e; exact nomatch e
    · exact c8 y ((q_mem_mid (x := x) y).mpr (Or.inr hy))
/-- what putIn leaves -/
theorem q_C_put {S S1 : qS} {c n fails now : Nat} {A B : List q_X} {x : q_X} {h ar t : Nat} {ns ns1 : List Nat} {rows : Nat → List Nat} (hC : q_C S c n fails now (A ++ x :: B) h ar t ns rows) (hx : x.2.2.1 = false) (hnow : now + 1 < 2 ^ 40)
    (h1 : q_sh S1 h ar t ns1 (if 3 ≤ x.2.1 then va_up rows x.2.1 (x.1 :: rows x.2.1) else rows)) (h2 : q_ne S1 ns1 (if 3 ≤ x.2.1 then va_up rows x.2.1 (x.1 :: rows x.2.1) else rows)) (hf : q_fr S S1 (q_cPI x.1) (q_cPR x.1) (q_cPJ h x.1)) (h3 : S1.I 2 x.1 = 1) (h4 : S1.J 0 x.1 = lN (now + 1)) (h5 : S1.J 1 h = lN (now + 1)) :
    ∃ rows1, q_C S1 c n fails (now + 1) (A ++ (x.1, x.2.1, true, now) :: B) h ar t ns1 rows1 := by
  obtain ⟨c1, c2, c3, c4, c5, c6, c7, c8, c9, c10⟩ := hC
  have hnd := q_nd_mid (q_line_nd c1)
  have hR : ∀ j a, q_cPR x.1 j a → j ≠ 0 ∧ j ≠ 9 ∧ j ≠ 8 := by
    intro j a z
    rcases z with ⟨z, -⟩ | z | z | z | z <;> subst z <;> decide
  have hnot : ∀ z, x.1 ∉ rows z := by
    intro z hz
    obtain ⟨-, y, hy, e1, -, e3⟩ := (c7.1 z x.1).mp hz
    rcases (q_mem_mid (x := x) y).mp hy with rfl | hy
    · rw [hx] at e3; exact nomatch e3
    · exact hnd y hy e1
  refine ⟨_, q_line_flag c1 hf (fun j a z => z) (fun j a z => ⟨(hR j a z).1, (hR j a z).2.1⟩) (fun a z => ?_) h3 (fun _ => h4), (hf.2.2.1 c c1.1 8 (fun z => (hR 8 c z).2.2 rfl)).trans c2, (hf.2.1 c c1.1 6 (fun z => absurd z.1 (by decide))).trans c3, h1, h2, h5, ?_, ?_, hnow, c10⟩
  · rcases z with ⟨z, -⟩ | ⟨-, z⟩
    · exact absurd z (by decide)
    · exact z
  · constructor
    · intro z a
      have key : (∃ y ∈ A ++ (x.1, x.2.1, true, now) :: B, y.1 = a ∧ y.2.1 = z ∧ y.2.2.1 = true) ↔ (a = x.1 ∧ z = x.2.1) ∨ (∃ y ∈ A ++ x :: B, y.1 = a ∧ y.2.1 = z ∧ y.2.2.1 = true) := by
        constructor
        · rintro ⟨y, hy, e1, e2, e3⟩
          rcases (q_mem_mid (x := x) y).mp hy with rfl | hy
          · exact Or.inl ⟨e1.symm, e2.symm⟩
          · exact Or.inr ⟨y, (q_mem_mid (x := x) y).mpr (Or.inr hy), e1, e2, e3⟩
        · rintro (⟨e1, e2⟩ | ⟨y, hy, e1, e2, e3⟩)
          · exact ⟨(x.1, x.2.1, true, now), (q_mem_mid (x := x) _).mpr (Or.inl rfl), e1.symm, e2.symm, rfl⟩
          · rcases (q_mem_mid (x := x) y).mp hy with rfl | hy
            · rw [hx] at e3; exact nomatch e3
            · exact ⟨y, (q_mem_mid (x := x) y).mpr (Or.inr hy), e1, e2, e3⟩
      rw [key]
      by_cases h9 : 3 ≤ x.2.1
      · rw [if_pos h9]
        by_cases hz : z = x.2.1
        · subst hz
          rw [va_up_self, List.mem_cons, c7.1]
          constructor
          · rintro (e | ⟨e1, e2⟩)
            · exact ⟨h9, Or.inl ⟨e, rfl⟩⟩
            · exact ⟨h9, Or.inr e2⟩
          · rintro ⟨e1, ⟨e2, -⟩ | e2⟩
            · exact Or.inl e2
            · exact Or.inr ⟨e1, e2⟩
        · rw [va_up_ne _ _ hz, c7.1]
          constructor
          · rintro ⟨e1, e2⟩; exact ⟨e1, Or.inr e2⟩
          · rintro ⟨e1, ⟨-, e2⟩ | e2⟩
            · exact absurd e2 hz
            · exact ⟨e1, e2⟩
      · rw [if_neg h9, c7.1]
        constructor
        · rintro ⟨e1, e2⟩; exact ⟨e1, Or.inr e2⟩
        · rintro ⟨e1, ⟨-, e2⟩ | e2⟩
          · exact absurd e1 (by omega)
          · exact ⟨e1, e2⟩
    · intro z
      have hJ : ∀ a ∈ rows z, S1.J 0 a = S.J 0 a := fun a ha => hf.2.2.2 a (c4.2.2.2.2.2.2 z a ha).1 0 (fun w => by
        rcases w with ⟨w, -⟩ | ⟨-, w⟩
        · exact absurd w (by decide)
        · exact hnot z (w ▸ ha))
      have hp : (rows z).Pairwise (fun a b => (S1.J 0 b).toInt < (S1.J 0 a).toInt) := by
        refine List.Pairwise.imp_of_mem ?_ (c7.2 z)
        intro a b ha hb hab
        rw [hJ a ha, hJ b hb]; exact hab
      by_cases h9 : 3 ≤ x.2.1
      · rw [if_pos h9]
        by_cases hz : z = x.2.1
        · subst hz
          rw [va_up_self]
          refine List.pairwise_cons.mpr ⟨fun a ha => ?_, hp⟩
          obtain ⟨-, y, hy, e1, -, e3⟩ := (c7.1 _ a).mp ha
          obtain ⟨q, hq⟩ := q_pcs_mem c1.2.2.2.2.1 hy
          have e4 := hq.2.2.2.2.2 e3
          have e5 := c8 y hy e3
          rw [hJ a ha, ← e1, e4, h4, q_lI (by omega), q_lI (by omega)]
          omega
        · rw [va_up_ne _ _ hz]; exact hp
      · rw [if_neg h9]; exact hp
  · intro y hy
    rcases (q_mem_mid (x := x) y).mp hy with rfl | hy
    · intro _; exact Nat.lt_succ_self _
    · intro e; exact Nat.lt_succ_of_lt (c8 y ((q_mem_mid (x := x) y).mpr (Or.inr hy)) e)
end
section
/-! what the class may change, seen from the reference -/
abbrev q_kI : Nat → Nat → Prop := fun j _ => j ≤ 6
abbrev q_kR : Nat → Nat → Prop := fun j _ => j ≤ 9
abbrev q_kJ : Nat → Nat → Prop := fun _ _ => True
theorem q_fr_I {S S' : qS} {k x : Nat} {v : Int32} {cI cR cJ : Nat → Nat → Prop} (hf : q_fr S S' cI cR cJ) (h : cI k x ∨ x ∉ S.L) : q_fr S (S'.sI k x v) cI cR cJ :=
  ⟨hf.1, fun a ha j hj => by
    rcases h with h | h
    · exact ((q_fr_sI (S := S') (v := v) (cR := cR) (cJ := cJ) h).2.1 a (hf.1 a ha).1 j hj).trans (hf.2.1 a ha j hj)
    · rw [qI_ne _ _ _ _ (fun e : a = x => h (e ▸ ha))]; exact hf.2.1 a ha j hj, hf.2.2.1, hf.2.2.2⟩
theorem q_fr_R {S S' : qS} {k x : Nat} {v : Option Nat} {cI cR cJ : Nat → Nat → Prop} (hf : q_fr S S' cI cR cJ) (h : cR k x ∨ x ∉ S.L) : q_fr S (S'.sR k x v) cI cR cJ :=
  ⟨hf.1, hf.2.1, fun a ha j hj => by
    rcases h with h | h
    · exact ((q_fr_sR (S := S') (v := v) (cI := cI) (cJ := cJ) h).2.2.1 a (hf.1 a ha).1 j hj).trans (hf.2.2.1 a ha j hj)
    · rw [qR_ne _ _ _ _ (fun e : a = x => h (e ▸ ha))]; exact hf.2.2.1 a ha j hj, hf.2.2.2⟩
theorem q_k_CR : ∀ j x, q_cCR j x → q_kR j x := fun j x z => by rcases z with z | z <;> subst z <;> exact Nat.le_of_ble_eq_true rfl
theorem q_k_T : ∀ j x, q_cT j x → q_kR j x := fun j x z => by rcases z with z | z | z <;> subst z <;> exact Nat.le_of_ble_eq_true rfl
theorem q_k_PR {g : Nat} : ∀ j x, q_cPR g j x → q_kR j x := fun j x z => by rcases z with ⟨z, -⟩ | z | z | z | z <;> subst z <;> exact Nat.le_of_ble_eq_true rfl
theorem q_k_OR {l : List Nat} : ∀ j x, q_cOR l j x → q_kR j x := fun j x z => by rcases z with ⟨z, -⟩ | z | z | z | z <;> subst z <;> exact Nat.le_of_ble_eq_true rfl
theorem q_k_PI {g : Nat} : ∀ j x, q_cPI g j x → q_kI j x := fun j x z => by rw [z.1]; exact Nat.le_of_ble_eq_true rfl
theorem q_fr_new {S S' : qS} {q k : Nat} {cI cR cJ : Nat → Nat → Prop} (hq : q ∉ S.L) (hf : q_fr (S.nO q k) S' q_c0 (fun _ x => x = q) q_c0) : q_fr S S' cI cR cJ := by
  have h0 : q_fr S (S.nO q k) q_c0 q_c0 q_c0 := q_fr_nO hq
  refine ⟨fun a ha => ?_, fun a ha j _ => (hf.2.1 a (h0.1 a ha).1 j (fun z => z)).trans (h0.2.1 a ha j (fun z => z)), fun a ha j _ => (hf.2.2.1 a (h0.1 a ha).1 j (fun z : a = q => hq (z ▸ ha))).trans (h0.2.2.1 a ha j (fun z => z)), fun a ha j _ => (hf.2.2.2 a (h0.1 a ha).1 j (fun z => z)).trans (h0.2.2.2 a ha j (fun z => z))⟩
  obtain ⟨h1, h2, h3, h4, h5⟩ := h0.1 a ha
  obtain ⟨g1, g2, g3, g4, g5⟩ := hf.1 a h1
  exact ⟨g1, g2.trans h2, g3.trans h3, g4.trans h4, g5.trans h5⟩
/-- a piece that has just been made -/
def q_pcn (A : qS) (q : Nat) (a n : Int32) (b : Option Nat) : qS := (((A.nO q 0).sI 0 q a).sI 1 q n).sR 0 q b
theorem q_fresh {A : qS} {q : Nat} {a n : Int32} {b : Option Nat} (hq : q ∉ A.L) : q_fr A (q_pcn A q a n b) q_c0 q_c0 q_c0 ∧ q ∈ (q_pcn A q a n b).L ∧ (q_pcn A q a n b).K q = 0 ∧ (q_pcn A q a n b).I 0 q = a ∧ (q_pcn A q a n b).I 1 q = n ∧ (q_pcn A q a n b).I 2 q = 0 ∧ (q_pcn A q a n b).R 0 q = b := by
  have e0 : (((A.nO q 0).sI 0 q a).sI 1 q n).I 0 q = a := (congrFun (qI_of _ _ _ _ (by decide)) q).trans (qI_self _ _ _ _)
  have e1 : (((A.nO q 0).sI 0 q a).sI 1 q n).I 1 q = n := qI_self _ _ _ _
  have e2 : (((A.nO q 0).sI 0 q a).sI 1 q n).I 2 q = 0 := (congrFun (qI_of _ _ _ _ (by decide)) q).trans ((congrFun (qI_of _ _ _ _ (by decide)) q).trans (va_up_self _ _ _))
  exact ⟨q_fr_R (q_fr_I (q_fr_I (q_fr_nO hq) (Or.inr hq)) (Or.inr hq)) (Or.inr hq), q_nO_in A q 0, q_nO_K A q 0, e0, e1, e2, qR_self _ _ _ _⟩
set_option maxHeartbeats 4000000 in
set_option maxRecDepth 100000 in
theorem c0_Shelf_startWith (l : Launch) (E : qE) (S : qS) (c9 h ar t n9 tm : Nat) (ns : List Nat) (rows : Nat → List Nat) (hL_c9 : c9 ∈ S.L) (hK_c9 : S.K c9 = 4) (hR8 : S.R 8 c9 = some h) (hs : q_sh S h ar t ns rows) (hJ : S.J 1 h = lN tm) (htm : tm + 1 < 2 ^ 40) (hn1 : 1 ≤ n9) (hn2 : n9 ≤ 16384) (post : qS → Prop) (hpost : ∀ S1, (∃ q ns1 rows1, q_C S1 c9 n9 0 (tm + 1) [(q, n9, true, tm)] h ar t ns1 rows1 ∧ q_fr S S1 q_kI q_kR q_kJ) → post S1) : q_Mv l yX4_startWith cX4_startWith 2 { frames := 4, cells := 2, slots := 11, locals := 76 } E [.ref c9, .int (nI n9)] S (post) 2 11 := by
  refine q_ofW1 (by decide) (q_1c rfl (q_1c rfl q_1n)) (Nat.le_of_ble_eq_true rfl) (fun p e s m below meth c C hV hr hlk hnm ls hl => ?_)
  have hl : lv_has ls 2 [(0, va_rf (some c9)), (1, .int (nI n9))] := hl
  have hL_h := hs.1.1
  have hK_h := hs.1.2.1
  refine q_aload_n (r := some c9) C dX4_startWith_0 rfl (lv_at hl 0 rfl) ?_
  refine g_Shelf_shelves C hV hL_c9 hK_c9 (Or.inl wd_177) dX4_startWith_1 ?_
  refine q_tr (v' := some h) (hR8) ?_
  refine q_cv hV (q_rN (b := h) (As := []) (rest := []) C hV (c_Shelves_clear l E S h ar t ns rows hs) wd_114 wd_111 wd_113 wd_1 wd_38 ok_X2_clear ⟨rfl, rfl, Nat.le_of_ble_eq_true rfl, Nat.le_of_ble_eq_true rfl⟩ (q_rc2 hV hL_h hK_h) rfl hl.1 rfl (q_sm q_1n (Nat.le_of_ble_eq_true rfl)) dX4_startWith_4 ⟨Nat.le_of_ble_eq_true rfl, Nat.le_of_ble_eq_true rfl⟩) (fun S4 H locs hp4 hV => ?_)
  obtain ⟨hs4, hf4⟩ := hp4
  have hL_c4 : c9 ∈ S4.L := (hf4.1 c9 hL_c9).1
  have hK_c4 : S4.K c9 = 4 := (hf4.1 c9 hL_c9).2.1.trans hK_c9
  have hR84 : S4.R 8 c9 = some h := (hf4.2.2.1 c9 hL_c9 8 (fun z => by rcases z with z | z <;> exact absurd z (by decide))).trans hR8
  have hJ4 : S4.J 1 h = lN tm := (hf4.2.2.2 h hs.1.1 1 (fun z => z)).trans hJ
  refine q_aload_n (r := some c9) C dX4_startWith_7 rfl (lv_at hl 0 rfl) ?_
  refine lv_iload_n C.1 C.2.1 dX4_startWith_8 rfl (lv_at hl 1 rfl) ?_
  refine p_Shelf_cellCount (v := nI n9) C hV hL_c4 hK_c4 (Or.inl wd_179) dX4_startWith_9 (fun H locs hV => ?_)
  refine q_aload_n (r := some c9) C dX4_startWith_12 rfl (lv_at hl 0 rfl) ?_
  refine lv_iconst (v := 0) C.1 C.2.1 dX4_startWith_13 (by decide) ?_
  refine p_Shelf_misses (v := 0) C hV hL_c4 hK_c4 (Or.inl wd_180) dX4_startWith_14 (fun H locs hV => ?_)
  refine q_aload_n (r := some c9) C dX4_startWith_17 rfl (lv_at hl 0 rfl) ?_
  refine n_Piece C hV wd_115 (by decide) (by decide) dX4_startWith_18 (fun q18 H hq18 hV => ?_)
  refine lv_dup C.1 C.2.1 dX4_startWith_21 rfl ?_
  refine lv_iconst (v := 1) C.1 C.2.1 dX4_startWith_22 (by decide) ?_
  refine lv_iload_n C.1 C.2.1 dX4_startWith_23 rfl (lv_at hl 1 rfl) ?_
  refine lv_null C.1 C.2.1 dX4_startWith_24 ?_
  refine q_cv hV (q_rI (b := q18) (As := [.int (1), .int (nI n9), va_rf (none)]) (rest := [va_rf (some q18), va_rf (some c9)]) C hV (c_Piece_init l E (((S4.sI 5 c9 (nI n9)).sI 6 c9 (0)).nO q18 0) q18 1 (nI n9) none (q_nO_in _ _ _) (q_nO_K _ _ _)) wd_119 (Or.inr ⟨_, wd_117⟩) wd_118 wd_41 rfl ok_X0_init ⟨rfl, rfl, Nat.le_of_ble_eq_true rfl, Nat.le_of_ble_eq_true rfl⟩ rfl hl.1 rfl (q_sm (q_1c (q_cat _) (q_1c (q_cat _) q_1n)) (Nat.le_of_ble_eq_true rfl)) dX4_startWith_25 ⟨Nat.le_of_ble_eq_true rfl, Nat.le_of_ble_eq_true rfl⟩) (fun S25 H locs hp25 hV => ?_)
  subst hp25
  obtain ⟨hfq, hq1, hq2, hq3, hq4, hq5, hq6⟩ := q_fresh (A := (S4.sI 5 c9 (nI n9)).sI 6 c9 (0)) (q := q18) (a := 1) (n := nI n9) (b := none) hq18
  have hL_c5 : c9 ∈ (q_pcn ((S4.sI 5 c9 (nI n9)).sI 6 c9 (0)) q18 1 (nI n9) none).L := (hfq.1 c9 hL_c4).1
  have hK_c5 : (q_pcn ((S4.sI 5 c9 (nI n9)).sI 6 c9 (0)) q18 1 (nI n9) none).K c9 = 4 := (hfq.1 c9 hL_c4).2.1.trans hK_c4
  refine p_Shelf_lowest (v := some q18) C hV hL_c5 hK_c5 (Or.inl wd_178) dX4_startWith_28 (fun H locs hV => ?_)
  obtain ⟨S6, hS6⟩ : ∃ X : qS, X = (q_pcn ((S4.sI 5 c9 (nI n9)).sI 6 c9 (0)) q18 1 (nI n9) none).sR 9 c9 (some q18) := ⟨_, rfl⟩
  have hV : q_V E s S6 H locs := by rw [hS6]; exact hV
  have hf6 : q_fr S4 S6 (fun j x => x = c9 ∧ (j = 5 ∨ j = 6)) (fun j x => j = 9 ∧ x = c9) q_c0 := by
    rw [hS6]
    exact q_fr_R (q_fr_tr (q_fr_I (q_fr_sI ⟨rfl, Or.inl rfl⟩) (Or.inl ⟨rfl, Or.inr rfl⟩)) (q_fr_mo hfq (fun _ _ z => z.elim) (fun _ _ z => z.elim) (fun _ _ z => z))) (Or.inl ⟨rfl, rfl⟩)
  have hs6 : q_sh S6 h ar t [] (fun _ => []) := q_sh_fr hs4 hf6 (fun a z => by rcases z.2 with z | z <;> exact absurd z (by decide)) (fun z p hp => nomatch hp) (fun a => ⟨fun z => absurd z.1 (by decide), fun z => absurd z.1 (by decide), fun z => absurd z.1 (by decide), fun z => absurd z.1 (by decide), fun z => absurd z.1 (by decide), fun z => absurd z.1 (by decide)⟩) (fun z p hp => nomatch hp)
  have hL_q6 : q18 ∈ S6.L := by rw [hS6]; exact hq1
  have hK_q6 : S6.K q18 = 0 := by rw [hS6]; exact hq2
  have hI0 : S6.I 0 q18 = 1 := by rw [hS6]; exact hq3
  have hI1 : S6.I 1 q18 = nI n9 := by rw [hS6]; exact hq4
  have hI2 : S6.I 2 q18 = 0 := by rw [hS6]; exact hq5
  have hR0 : S6.R 0 q18 = none := by rw [hS6]; exact (congrFun (qR_of _ _ _ _ (by decide)) q18).trans hq6
  have hR9 : S6.R 9 c9 = some q18 := by rw [hS6]; exact qR_self _ _ _ _
  have hL_c6 : c9 ∈ S6.L := (hf6.1 c9 hL_c4).1
  have hK_c6 : S6.K c9 = 4 := (hf6.1 c9 hL_c4).2.1.trans hK_c4
  have hI5 : S6.I 5 c9 = nI n9 := by rw [hS6]; exact (hfq.2.1 c9 hL_c4 5 (fun z => z)).trans ((congrFun (qI_of _ _ _ _ (by decide)) c9).trans (qI_self _ _ _ _))
  have hI6 : S6.I 6 c9 = 0 := by rw [hS6]; exact (hfq.2.1 c9 hL_c4 6 (fun z => z)).trans (qI_self _ _ _ _)
  have hR86 : S6.R 8 c9 = some h := (hf6.2.2.1 c9 hL_c4 8 (fun z => absurd z.1 (by decide))).trans hR84
  have hJ6 : S6.J 1 h = lN tm := (hf6.2.2.2 h hs4.1.1 1 (fun z => z)).trans hJ4
  have hC6 : q_C S6 c9 n9 0 tm [(q18, n9, false, 0)] h ar t [] (fun _ => []) := ⟨⟨hL_c6, hK_c6, hI5, ⟨hR9, hR0⟩, ⟨⟨hL_q6, hK_q6, hI0, hI1, hI2, fun e => nomatch e⟩, trivial⟩, Nat.add_zero _, hn2, fun x hx => by rw [List.mem_singleton.mp hx]; exact hn1⟩, hR86, hI6, hs6, fun r hr => (nomatch hr), hJ6, ⟨fun z a => ⟨fun hh => (nomatch hh), fun ⟨_, x, hx, _, _, e⟩ => by rw [List.mem_singleton.mp hx] at e; exact nomatch e⟩, fun z => List.Pairwise.nil⟩, fun x hx e => (by rw [List.mem_singleton.mp hx] at e; exact (nomatch e)), by omega, hn1⟩
  have hL_h6 := hs6.1.1
  have hK_h6 := hs6.1.2.1
  refine q_aload_n (r := some c9) C dX4_startWith_31 rfl (lv_at hl 0 rfl) ?_
  refine g_Shelf_shelves C hV hL_c6 hK_c6 (Or.inl wd_177) dX4_startWith_32 ?_
  refine q_tr (v' := some h) (hR86) ?_
  refine q_aload_n (r := some c9) C dX4_startWith_35 rfl (lv_at hl 0 rfl) ?_
  refine g_Shelf_lowest C hV hL_c6 hK_c6 (Or.inl wd_178) dX4_startWith_36 ?_
  refine q_tr (v' := some q18) (hR9) ?_
  refine q_cv hV (q_rN (b := h) (As := [va_rf (some q18)]) (rest := []) C hV (c_Shelves_putIn l E S6 h ar t [] (fun _ => []) hs6 (fun r hr => nomatch hr) q18 n9 tm hL_q6 hK_q6 hI1 (by omega) (fun y hy => nomatch hy) hJ6) wd_154 wd_151 wd_153 wd_2 wd_38 ok_X2_putIn ⟨rfl, rfl, Nat.le_of_ble_eq_true rfl, Nat.le_of_ble_eq_true rfl⟩ (q_rc2 hV hL_h6 hK_h6) rfl hl.1 rfl (q_sm q_1n (Nat.le_of_ble_eq_true rfl)) dX4_startWith_39 ⟨Nat.le_of_ble_eq_true rfl, Nat.le_of_ble_eq_true rfl⟩) (fun S39 H locs hp39 hV => ?_)
  refine q_vret C hV hr hlk (by decide) (by decide) dX4_startWith_42 ?_
  obtain ⟨ns39, k1, k2, k3, k4, k5, k6⟩ := hp39
  obtain ⟨rows39, hC39⟩ := q_C_put (A := []) (B := []) (x := (q18, n9, false, 0)) hC6 rfl htm k1 k2 k3 k4 k5 k6
  refine hpost _ ⟨q18, ns39, rows39, hC39, q_fr_tr (q_fr_tr (q_fr_mo hf4 (fun _ _ z => z.elim) q_k_CR (fun _ _ z => z.elim)) (q_fr_mo hf6 (fun j x z => by rcases z.2 with z | z <;> subst z <;> exact Nat.le_of_ble_eq_true rfl) (fun j x z => by rw [z.1]; exact Nat.le_of_ble_eq_true rfl) (fun _ _ z => z.elim))) (q_fr_mo k3 q_k_PI q_k_PR (fun _ _ _ => trivial))⟩
theorem c_Shelf_startWith (l : Launch) (E : qE) (S : qS) (c9 h ar t n9 tm : Nat) (ns : List Nat) (rows : Nat → List Nat) (hL_c9 : c9 ∈ S.L) (hK_c9 : S.K c9 = 4) (hR8 : S.R 8 c9 = some h) (hs : q_sh S h ar t ns rows) (hJ : S.J 1 h = lN tm) (htm : tm + 1 < 2 ^ 40) (hn1 : 1 ≤ n9) (hn2 : n9 ≤ 16384) : q_Mv l yX4_startWith cX4_startWith 2 { frames := 4, cells := 2, slots := 11, locals := 76 } E [.ref c9, .int (nI n9)] S (fun S1 => ∃ q ns1 rows1, q_C S1 c9 n9 0 (tm + 1) [(q, n9, true, tm)] h ar t ns1 rows1 ∧ q_fr S S1 q_kI q_kR q_kJ) 2 11 := c0_Shelf_startWith l E S c9 h ar t n9 tm ns rows hL_c9 hK_c9 hR8 hs hJ htm hn1 hn2 _ (fun _ h => h)

set_option maxHeartbeats 4000000 in
set_option maxRecDepth 100000 in
theorem c0_Shelf_init (l : Launch) (E : qE) (S : qS) (c9 : Nat) (hL_c9 : c9 ∈ S.L) (hK_c9 : S.K c9 = 4) (post : qS → Prop) (hpost : ∀ S1, (∃ q h ar t ns1 rows1, q_C S1 c9 1024 0 1 [(q, 1024, true, 0)] h ar t ns1 rows1 ∧ q_fr S S1 q_kI (fun j x => j ≤ 9) q_kJ) → post S1) : q_Mv l yX4_init cX4_init 1 { frames := 5, cells := 66, slots := 320, locals := 97 } E [.ref c9] S (post) 66 320 := by
  refine q_ofW1 (by decide) (q_1c rfl q_1n) (Nat.le_of_ble_eq_true rfl) (fun p e s m below meth c C hV hr hlk hnm ls hl => ?_)
  have hl : lv_has ls 1 [(0, va_rf (some c9))] := hl
  refine q_aload_n (r := some c9) C dX4_init_0 rfl (lv_at hl 0 rfl) ?_
  refine q_objInit C wd_54 wd_55 wd_56 hl.1 dX4_init_1 (Nat.le_of_ble_eq_true rfl) (Nat.le_of_ble_eq_true rfl) ?_
  refine q_aload_n (r := some c9) C dX4_init_4 rfl (lv_at hl 0 rfl) ?_
  refine n_Shelves C hV wd_57 (by decide) (by decide) dX4_init_5 (fun q5 H hq5 hV => ?_)
  refine lv_dup C.1 C.2.1 dX4_init_8 rfl ?_
  refine q_cv hV (q_rI (b := q5) (As := []) (rest := [va_rf (some q5), va_rf (some c9)]) C hV (c_Shelves_init l E (S.nO q5 2) q5 (q_nO_in _ _ _) (q_nO_K _ _ _)) wd_61 (Or.inr ⟨_, wd_59⟩) wd_60 wd_38 rfl ok_X2_init ⟨rfl, rfl, Nat.le_of_ble_eq_true rfl, Nat.le_of_ble_eq_true rfl⟩ rfl hl.1 rfl (q_sm (q_1c (q_cat _) (q_1c (q_cat _) q_1n)) (Nat.le_of_ble_eq_true rfl)) dX4_init_9 ⟨Nat.le_of_ble_eq_true rfl, Nat.le_of_ble_eq_true rfl⟩) (fun S9 H locs hp9 hV => ?_)
  obtain ⟨ar, t, hs9, hf9, -, -⟩ := hp9
  have hL_c9b : c9 ∈ S9.L := (hf9.1 c9 (List.mem_append_left _ hL_c9)).1
  have hK_c9b : S9.K c9 = 4 := (hf9.1 c9 (List.mem_append_left _ hL_c9)).2.1.trans ((va_up_ne _ _ (fun e : c9 = q5 => hq5 (e ▸ hL_c9))).trans hK_c9)
  refine p_Shelf_shelves (v := some q5) C hV hnm hL_c9b hK_c9b (wd_177) rfl dX4_init_12 (fun H locs hV => ?_)
  have hs9b : q_sh (S9.sR 8 c9 (some q5)) q5 ar t [] (fun _ => []) := q_sh_fr (cI := q_c0) (cR := fun j _ => j = 8) (cJ := q_c0) hs9 (q_fr_sR rfl) (fun a z => z) (fun z p hp => nomatch hp) (fun a => ⟨fun z => absurd (show (5 : Nat) = 8 from z) (by decide), fun z => absurd (show (6 : Nat) = 8 from z) (by decide), fun z => absurd (show (3 : Nat) = 8 from z) (by decide), fun z => absurd (show (4 : Nat) = 8 from z) (by decide), fun z => absurd (show (7 : Nat) = 8 from z) (by decide), fun z => absurd (show (2 : Nat) = 8 from z) (by decide)⟩) (fun z p hp => nomatch hp)
  have hJ9b : (S9.sR 8 c9 (some q5)).J 1 q5 = lN 0 := (hf9.2.2.2 q5 (q_nO_in S q5 2) 1 (fun z => z)).trans (va_up_self _ _ _)
  refine q_aload_n (r := some c9) C dX4_init_15 rfl (lv_at hl 0 rfl) ?_
  refine lv_sipush (v := 1024) C.1 C.2.1 dX4_init_16 (by decide) ?_
  refine q_ti (v' := nI 1024) (by decide) ?_
  refine q_cv hV (q_rV (b := c9) (As := [.int (nI 1024)]) (rest := []) C hV (c_Shelf_startWith l E (S9.sR 8 c9 (some q5)) c9 q5 ar t 1024 0 [] (fun _ => []) hL_c9b hK_c9b (qR_self _ _ _ _) hs9b hJ9b (by decide) (by decide) (by decide)) wd_110 wd_107 wd_109 wd_0 wd_37 ok_X4_startWith ⟨rfl, rfl, Nat.le_of_ble_eq_true rfl, Nat.le_of_ble_eq_true rfl⟩ (q_rc4 hV hL_c9b hK_c9b) rfl hl.1 rfl (q_sm q_1n (Nat.le_of_ble_eq_true rfl)) dX4_init_19 ⟨Nat.le_of_ble_eq_true rfl, Nat.le_of_ble_eq_true rfl⟩) (fun S19 H locs hp19 hV => ?_)
  refine q_vret C hV hr hlk (by decide) (by decide) dX4_init_22 ?_
  obtain ⟨q, ns1, rows1, hCF, hfF⟩ := hp19
  refine hpost _ ⟨q, q5, ar, t, ns1, rows1, hCF, q_fr_tr (q_fr_R (q_fr_new hq5 hf9) (Or.inl (Nat.le_of_ble_eq_true rfl))) hfF⟩
theorem c_Shelf_init (l : Launch) (E : qE) (S : qS) (c9 : Nat) (hL_c9 : c9 ∈ S.L) (hK_c9 : S.K c9 = 4) : q_Mv l yX4_init cX4_init 1 { frames := 5, cells := 66, slots := 320, locals := 97 } E [.ref c9] S (fun S1 => ∃ q h ar t ns1 rows1, q_C S1 c9 1024 0 1 [(q, 1024, true, 0)] h ar t ns1 rows1 ∧ q_fr S S1 q_kI (fun j x => j ≤ 9) q_kJ) 66 320 := c0_Shelf_init l E S c9 hL_c9 hK_c9 _ (fun _ h => h)
end
section
theorem q_IR (S : qS) (k a : Nat) (v : Option Nat) : (S.sR k a v).I = S.I := rfl
theorem q_RI (S : qS) (k a : Nat) (v : Int32) : (S.sI k a v).R = S.R := rfl
theorem q_LR (S : qS) (k a : Nat) (v : Option Nat) : (S.sR k a v).L = S.L := rfl
theorem q_LI (S : qS) (k a : Nat) (v : Int32) : (S.sI k a v).L = S.L := rfl
theorem q_KR (S : qS) (k a : Nat) (v : Option Nat) : (S.sR k a v).K = S.K := rfl
theorem q_KI (S : qS) (k a : Nat) (v : Int32) : (S.sI k a v).K = S.K := rfl
theorem q_ch_ins {f f' : Nat → Option Nat} {p q : Nat} {lB : List Nat} : ∀ {lA : List Nat} {o : Option Nat}, q_ch f o (lA ++ p :: lB) → (∀ a ∈ lA ++ lB, f' a = f a) → f' p = some q → f' q = f p → q_ch f' o (lA ++ p :: q :: lB) := by
  intro lA
  induction lA with
  | nil =>
    intro o h hs h1 h2
    exact ⟨h.1, h1, by rw [h2]; exact q_ch_congr (fun a ha => hs a (by simpa using ha)) h.2⟩
  | cons b t ih =>
    intro o h hs h1 h2
    refine ⟨h.1, ?_⟩
    rw [hs b (by simp)]
    exact ih h.2 (fun a ha => hs a (by simp only [List.cons_append, List.mem_cons]; exact Or.inr ha)) h1 h2
theorem q_ch_del {f f' : Nat → Option Nat} {p q : Nat} {lB : List Nat} : ∀ {lA : List Nat} {o : Option Nat}, q_ch f o (lA ++ p :: q :: lB) → (∀ a ∈ lA ++ lB, f' a = f a) → f' p = f q → q_ch f' o (lA ++ p :: lB) := by
  intro lA
  induction lA with
  | nil =>
    intro o h hs h1
    exact ⟨h.1, by rw [h1]; exact q_ch_congr (fun a ha => hs a (by simpa using ha)) h.2.2⟩
  | cons b t ih =>
    intro o h hs h1
    refine ⟨h.1, ?_⟩
    rw [hs b (by simp)]
    exact ih h.2 (fun a ha => hs a (by simp only [List.cons_append, List.mem_cons]; exact Or.inr ha)) h1
theorem q_ch_at {f : Nat → Option Nat} {p : Nat} {lB : List Nat} : ∀ {lA : List Nat} {o : Option Nat}, q_ch f o (lA ++ p :: lB) → q_ch f (f p) lB := by
  intro lA
  induction lA with
  | nil => intro o h; exact h.2
  | cons b t ih => intro o h; exact ih h.2
/-- rows hold free pieces alone -/
theorem q_C_used {S : qS} {c n fails now : Nat} {A B : List q_X} {x : q_X} {h ar t : Nat} {ns : List Nat} {rows : Nat → List Nat} (hC : q_C S c n fails now (A ++ x :: B) h ar t ns rows) (hx : x.2.2.1 = false) : ∀ z, x.1 ∉ rows z := by
  obtain ⟨c1, -, -, -, -, -, c7, -⟩ := hC
  have hnd := q_nd_mid (q_line_nd c1)
  intro z hz
  obtain ⟨-, y, hy, e1, -, e3⟩ := (c7.1 z x.1).mp hz
  rcases (q_mem_mid (x := x) y).mp hy with rfl | hy
  · rw [hx] at e3; exact nomatch e3
  · exact hnd y hy e1
theorem q_C_cut {S S6 : qS} {c n fails now : Nat} {A B : List q_X} {p q z s t9 : Nat} {h ar t : Nat} {ns : List Nat} {rows : Nat → List Nat} (hC : q_C S c n fails now (A ++ (p, z, false, t9) :: B) h ar t ns rows) (hs1 : 1 ≤ s) (hs2 : s < z) (hq : q ∉ S.L)
    (hS6 : S6 = ((q_pcn S q (nI (1 + q_sz A) + nI s) (nI z - nI s) (S.R 0 p)).sI 1 p (nI s)).sR 0 p (some q)) : q_C S6 c n fails now (A ++ (p, s, false, t9) :: (q, z - s, false, 0) :: B) h ar t ns rows ∧ q_fr S S6 (fun j x => j = 1 ∧ x = p) (fun j x => j = 0 ∧ x = p) q_c0 := by
  have hnot := q_C_used hC rfl
  obtain ⟨c1, c2, c3, c4, c5, c6, c7, c8, c9, c10⟩ := hC
  have hnd := q_nd_mid (q_line_nd c1)
  obtain ⟨h1, h2, h3, h4, h5, h6, h7, h8⟩ := c1
  obtain ⟨hfq, hq1, hq2, hq3, hq4, hq5, hq6⟩ := q_fresh (A := S) (q := q) (a := nI (1 + q_sz A) + nI s) (n := nI z - nI s) (b := S.R 0 p) hq
  obtain ⟨hA, hx, hB⟩ := q_pcs_app.mp h5
  obtain ⟨g1, g2, g3, g4, g5, -⟩ := hx
  have hqp : q ≠ p := fun e => hq (e ▸ g1)
  have hf : q_fr S S6 (fun j x => j = 1 ∧ x = p) (fun j x => j = 0 ∧ x = p) q_c0 := by
    rw [hS6]
    exact q_fr_R (q_fr_I (q_fr_mo hfq (fun _ _ z => z.elim) (fun _ _ z => z.elim) (fun _ _ z => z)) (Or.inl ⟨rfl, rfl⟩)) (Or.inl ⟨rfl, rfl⟩)
  have hmem : ∀ y ∈ A ++ (p, z, false, t9) :: B, y.1 ∈ S.L := fun y hy => by obtain ⟨a, ha⟩ := q_pcs_mem h5 hy; exact ha.1
  have k1 : S6.I 1 p = nI s := by rw [hS6, q_IR]; exact qI_self _ _ _ _
  have k2 : S6.R 0 p = some q := by rw [hS6]; exact qR_self _ _ _ _
  have k3 : S6.R 0 q = S.R 0 p := by rw [hS6, qR_ne _ _ _ _ hqp, q_RI]; exact hq6
  have k4 : S6.I 0 q = nI (1 + q_sz A + s) := by rw [hS6, q_IR, qI_ne _ _ _ _ hqp, hq3, nI_add]
  have k5 : S6.I 1 q = nI (z - s) := by rw [hS6, q_IR, qI_ne _ _ _ _ hqp, hq4, pk_sub (by omega)]
  have k6 : S6.I 2 q = 0 := by rw [hS6, q_IR, qI_ne _ _ _ _ hqp, hq5]
  have k7 : q ∈ S6.L ∧ S6.K q = 0 := by rw [hS6, q_LR, q_LI, q_KR, q_KI]; exact ⟨hq1, hq2⟩
  have hn : ∀ y ∈ A ++ B, ¬ (0 = 1 ∧ y.1 = p) ∧ ¬ (1 = 1 ∧ y.1 = p) ∧ ¬ (2 = 1 ∧ y.1 = p) ∧ ¬ False := fun y hy => ⟨fun e => absurd e.1 (by decide), fun e => hnd y hy e.2, fun e => absurd e.1 (by decide), id⟩
  have hsz0 : q_sz A + (z + q_sz B) = n := by rw [← h6, q_sz_app]; rfl
  refine ⟨⟨⟨(hf.1 c h1).1, (hf.1 c h1).2.1.trans h2, (hf.2.1 c h1 5 (fun e => absurd e.1 (by decide))).trans h3, ?_, q_pcs_app.mpr ⟨q_pcs_fr hf hA (fun y hy => hn y (List.mem_append_left _ hy)), ⟨(hf.1 p g1).1, (hf.1 p g1).2.1.trans g2, (hf.2.1 p g1 0 (fun e => absurd e.1 (by decide))).trans g3, k1, (hf.2.1 p g1 2 (fun e => absurd e.1 (by decide))).trans g5, fun e => nomatch e⟩, ⟨k7.1, k7.2, k4, k5, k6, fun e => nomatch e⟩, ?_⟩, ?_, h7, fun y hy => ?_⟩, (hf.2.2.1 c h1 8 (fun e => absurd e.1 (by decide))).trans c2, (hf.2.1 c h1 6 (fun e => absurd e.1 (by decide))).trans c3, q_sh_fr c4 hf (fun a e => absurd e.1 (by decide)) (fun y x hx e => hnot y (e.2 ▸ hx)) (fun a => ⟨fun e => absurd e.1 (by decide), fun e => absurd e.1 (by decide), fun e => absurd e.1 (by decide), fun e => absurd e.1 (by decide), fun e => absurd e.1 (by decide), fun e => absurd e.1 (by decide)⟩) (fun y x hx e => absurd e.1 (by decide)), fun r hr => ?_, (hf.2.2.2 h c4.1.1 1 (fun e => e)).trans c6, ⟨fun y a => ?_, fun y => ?_⟩, fun y hy => ?_, c9, c10⟩, hf⟩
  · rw [q_ad_app, hf.2.2.1 c h1 9 (fun e => absurd e.1 (by decide))]
    rw [q_ad_app] at h4
    refine q_ch_ins h4 (fun a ha => ?_) k2 k3
    have : ∃ y ∈ A ++ B, y.1 = a := by
      rcases List.mem_append.mp ha with ha | ha <;> obtain ⟨y, hy, e⟩ := List.mem_map.mp ha
      · exact ⟨y, List.mem_append_left _ hy, e⟩
      · exact ⟨y, List.mem_append_right _ hy, e⟩
    obtain ⟨y, hy, rfl⟩ := this
    exact hf.2.2.1 y.1 (hmem y ((q_mem_mid (x := (p, z, false, t9)) y).mpr (Or.inr hy))) 0 (fun e => hnd y hy e.2)
  · have e9 : 1 + q_sz A + s + (z - s) = 1 + q_sz A + z := by omega
    show q_pcs S6 (1 + q_sz A + s + (z - s)) B
    rw [e9]
    exact q_pcs_fr hf hB (fun y hy => hn y (List.mem_append_right _ hy))
  · rw [q_sz_app]; simp only [q_sz]; omega
  · simp only [List.mem_append, List.mem_cons] at hy
    rcases hy with hy | rfl | rfl | hy
    · exact h8 y (by simp [hy])
    · exact hs1
    · show 1 ≤ z - s; omega
    · exact h8 y (by simp [hy])
  · have := c5 r hr
    have e9 : q_z S6 r = q_z S r := by show (S6.I 4 r).toInt = _; rw [hf.2.1 r (c4.2.2.2.1.2.2.2.1 r hr).1 4 (fun e => absurd e.1 (by decide))]; rfl
    rw [e9]; exact this
  · rw [c7.1]
    have key : (∃ w ∈ A ++ (p, s, false, t9) :: (q, z - s, false, 0) :: B, w.1 = a ∧ w.2.1 = y ∧ w.2.2.1 = true) ↔ (∃ w ∈ A ++ (p, z, false, t9) :: B, w.1 = a ∧ w.2.1 = y ∧ w.2.2.1 = true) := by
      constructor
      · rintro ⟨w, hw, e1, e2, e3⟩
        simp only [List.mem_append, List.mem_cons] at hw
        rcases hw with hw | rfl | rfl | hw
        · exact ⟨w, by simp [hw], e1, e2, e3⟩
        · exact nomatch e3
        · exact nomatch e3
        · exact ⟨w, by simp [hw], e1, e2, e3⟩
      · rintro ⟨w, hw, e1, e2, e3⟩
        simp only [List.mem_append, List.mem_cons] at hw
        rcases hw with hw | rfl | hw
        · exact ⟨w, by simp [hw], e1, e2, e3⟩
        · exact nomatch e3
        · exact ⟨w, by simp [hw], e1, e2, e3⟩
    rw [key]
  · refine List.Pairwise.imp_of_mem ?_ (c7.2 y)
    intro a b ha hb hab
    rw [hf.2.2.2 a (c4.2.2.2.2.2.2 y a ha).1 0 (fun e => e), hf.2.2.2 b (c4.2.2.2.2.2.2 y b hb).1 0 (fun e => e)]
    exact hab
  · simp only [List.mem_append, List.mem_cons] at hy
    rcases hy with hy | rfl | rfl | hy
    · exact c8 y (by simp [hy])
    · intro e; exact nomatch e
    · intro e; exact nomatch e
    · exact c8 y (by simp [hy])
/-- two used neighbours become one -/
theorem q_C_merge {S S6 : qS} {c n fails now : Nat} {A B : List q_X} {p q z s t9 t8 : Nat} {h ar t : Nat} {ns : List Nat} {rows : Nat → List Nat} (hC : q_C S c n fails now (A ++ (p, z, false, t9) :: (q, s, false, t8) :: B) h ar t ns rows)
    (hS6 : S6 = (S.sI 1 p (nI z + nI s)).sR 0 p (S.R 0 q)) : q_C S6 c n fails now (A ++ (p, z + s, false, t9) :: B) h ar t ns rows ∧ q_fr S S6 (fun j x => j = 1 ∧ x = p) (fun j x => j = 0 ∧ x = p) q_c0 := by
  have hnot := q_C_used hC rfl
  obtain ⟨c1, c2, c3, c4, c5, c6, c7, c8, c9, c10⟩ := hC
  have hnd := q_nd_mid (q_line_nd c1)
  obtain ⟨h1, h2, h3, h4, h5, h6, h7, h8⟩ := c1
  obtain ⟨hA, hx, hx2, hB⟩ := q_pcs_app.mp h5
  obtain ⟨g1, g2, g3, g4, g5, -⟩ := hx
  have hf : q_fr S S6 (fun j x => j = 1 ∧ x = p) (fun j x => j = 0 ∧ x = p) q_c0 := by
    rw [hS6]
    exact q_fr_R (q_fr_sI ⟨rfl, rfl⟩) (Or.inl ⟨rfl, rfl⟩)
  have hmem : ∀ y ∈ A ++ (p, z, false, t9) :: (q, s, false, t8) :: B, y.1 ∈ S.L := fun y hy => by obtain ⟨a, ha⟩ := q_pcs_mem h5 hy; exact ha.1
  have k1 : S6.I 1 p = nI (z + s) := by rw [hS6, q_IR]; exact (qI_self S 1 p _).trans (nI_add z s)
  have k2 : S6.R 0 p = S.R 0 q := by rw [hS6]; exact qR_self _ _ _ _
  have hn : ∀ y ∈ A ++ (q, s, false, t8) :: B, ¬ (0 = 1 ∧ y.1 = p) ∧ ¬ (1 = 1 ∧ y.1 = p) ∧ ¬ (2 = 1 ∧ y.1 = p) ∧ ¬ False := fun y hy => ⟨fun e => absurd e.1 (by decide), fun e => hnd y hy e.2, fun e => absurd e.1 (by decide), id⟩
  have hsz0 : q_sz A + (z + (s + q_sz B)) = n := by rw [← h6, q_sz_app]; rfl
  have hz1 : 1 ≤ z := h8 (p, z, false, t9) (by simp)
  refine ⟨⟨⟨(hf.1 c h1).1, (hf.1 c h1).2.1.trans h2, (hf.2.1 c h1 5 (fun e => absurd e.1 (by decide))).trans h3, ?_, q_pcs_app.mpr ⟨q_pcs_fr hf hA (fun y hy => hn y (List.mem_append_left _ hy)), ⟨(hf.1 p g1).1, (hf.1 p g1).2.1.trans g2, (hf.2.1 p g1 0 (fun e => absurd e.1 (by decide))).trans g3, k1, (hf.2.1 p g1 2 (fun e => absurd e.1 (by decide))).trans g5, fun e => nomatch e⟩, ?_⟩, ?_, h7, fun y hy => ?_⟩, (hf.2.2.1 c h1 8 (fun e => absurd e.1 (by decide))).trans c2, (hf.2.1 c h1 6 (fun e => absurd e.1 (by decide))).trans c3, q_sh_fr c4 hf (fun a e => absurd e.1 (by decide)) (fun y x hx e => hnot y (e.2 ▸ hx)) (fun a => ⟨fun e => absurd e.1 (by decide), fun e => absurd e.1 (by decide), fun e => absurd e.1 (by decide), fun e => absurd e.1 (by decide), fun e => absurd e.1 (by decide), fun e => absurd e.1 (by decide)⟩) (fun y x hx e => absurd e.1 (by decide)), fun r hr => ?_, (hf.2.2.2 h c4.1.1 1 (fun e => e)).trans c6, ⟨fun y a => ?_, fun y => ?_⟩, fun y hy => ?_, c9, c10⟩, hf⟩
  · rw [q_ad_app, hf.2.2.1 c h1 9 (fun e => absurd e.1 (by decide))]
    rw [q_ad_app] at h4
    refine q_ch_del (q := q) h4 (fun a ha => ?_) k2
    have : ∃ y ∈ A ++ (q, s, false, t8) :: B, y.1 = a := by
      rcases List.mem_append.mp ha with ha | ha <;> obtain ⟨y, hy, e⟩ := List.mem_map.mp ha
      · exact ⟨y, List.mem_append_left _ hy, e⟩
      · exact ⟨y, List.mem_append_right _ (List.mem_cons_of_mem _ hy), e⟩
    obtain ⟨y, hy, rfl⟩ := this
    exact hf.2.2.1 y.1 (hmem y ((q_mem_mid (x := (p, z, false, t9)) y).mpr (Or.inr hy))) 0 (fun e => hnd y hy e.2)
  · have e9 : 1 + q_sz A + (z + s) = 1 + q_sz A + z + s := by omega
    show q_pcs S6 (1 + q_sz A + (z + s)) B
    rw [e9]
    exact q_pcs_fr hf hB (fun y hy => hn y (List.mem_append_right _ (List.mem_cons_of_mem _ hy)))
  · rw [q_sz_app]; simp only [q_sz]; omega
  · simp only [List.mem_append, List.mem_cons] at hy
    rcases hy with hy | rfl | hy
    · exact h8 y (by simp [hy])
    · show 1 ≤ z + s; omega
    · exact h8 y (by simp [hy])
  · have := c5 r hr
    have e9 : q_z S6 r = q_z S r := by show (S6.I 4 r).toInt = _; rw [hf.2.1 r (c4.2.2.2.1.2.2.2.1 r hr).1 4 (fun e => absurd e.1 (by decide))]; rfl
    rw [e9]; exact this
  · rw [c7.1]
    have key : (∃ w ∈ A ++ (p, z + s, false, t9) :: B, w.1 = a ∧ w.2.1 = y ∧ w.2.2.1 = true) ↔ (∃ w ∈ A ++ (p, z, false, t9) :: (q, s, false, t8) :: B, w.1 = a ∧ w.2.1 = y ∧ w.2.2.1 = true) := by
      constructor
      · rintro ⟨w, hw, e1, e2, e3⟩
        simp only [List.mem_append, List.mem_cons] at hw
        rcases hw with hw | rfl | hw
        · exact ⟨w, by simp [hw], e1, e2, e3⟩
        · exact nomatch e3
        · exact ⟨w, by simp [hw], e1, e2, e3⟩
      · rintro ⟨w, hw, e1, e2, e3⟩
        simp only [List.mem_append, List.mem_cons] at hw
        rcases hw with hw | rfl | rfl | hw
        · exact ⟨w, by simp [hw], e1, e2, e3⟩
        · exact nomatch e3
        · exact nomatch e3
        · exact ⟨w, by simp [hw], e1, e2, e3⟩
    rw [key]
  · refine List.Pairwise.imp_of_mem ?_ (c7.2 y)
    intro a b ha hb hab
    rw [hf.2.2.2 a (c4.2.2.2.2.2.2 y a ha).1 0 (fun e => e), hf.2.2.2 b (c4.2.2.2.2.2.2 y b hb).1 0 (fun e => e)]
    exact hab
  · simp only [List.mem_append, List.mem_cons] at hy
    rcases hy with hy | rfl | hy
    · exact c8 y (by simp [hy])
    · intro e; exact nomatch e
    · exact c8 y (by simp [hy])
end
section
/-! one piece of the class, and what pullOut and putIn do with it -/
theorem q_C_cl {S : qS} {c n fails tm : Nat} {P : List q_X} {h ar t : Nat} {ns : List Nat} {rows : Nat → List Nat} (hC : q_C S c n fails tm P h ar t ns rows) : c ∈ S.L ∧ S.K c = 4 ∧ S.R 8 c = some h ∧ h ∈ S.L ∧ S.K h = 2 ∧ S.J 1 h = lN tm := ⟨hC.1.1, hC.1.2.1, hC.2.1, hC.2.2.2.1.1.1, hC.2.2.2.1.1.2.1, hC.2.2.2.2.2.1⟩
theorem q_C_at {S : qS} {c n fails tm : Nat} {A B : List q_X} {x : q_X} {h ar t : Nat} {ns : List Nat} {rows : Nat → List Nat} (hC : q_C S c n fails tm (A ++ x :: B) h ar t ns rows) : x.1 ∈ S.L ∧ S.K x.1 = 0 ∧ S.I 0 x.1 = nI (1 + q_sz A) ∧ S.I 1 x.1 = nI x.2.1 ∧ S.I 2 x.1 = q_fl x.2.2.1 ∧ q_ch (S.R 0) (S.R 0 x.1) (q_ad B) ∧ 1 ≤ x.2.1 ∧ q_sz A + x.2.1 + q_sz B = n ∧ n ≤ 16384 := by
  obtain ⟨⟨h1, h2, h3, h4, h5, h6, h7, h8⟩, -⟩ := hC
  obtain ⟨g1, g2, g3, g4, g5, -⟩ := q_pok_at h5
  rw [q_ad_app] at h4
  refine ⟨g1, g2, g3, g4, g5, q_ch_at h4, h8 x (by simp), ?_, h7⟩
  rw [← h6, q_sz_app]; simp only [q_sz]; omega
theorem c_pullC (l : Launch) (E : qE) (S : qS) (c n fails tm : Nat) (A B : List q_X) (x : q_X) (h ar t : Nat) (ns : List Nat) (rows : Nat → List Nat) (hC : q_C S c n fails tm (A ++ x :: B) h ar t ns rows) (hx : x.2.2.1 = true) : q_Mv l yX2_pullOut cX2_pullOut 3 { frames := 2, cells := 0, slots := 0, locals := 44 } E [.ref h, .ref x.1] S (fun S1 => ∃ ns1 rows1, q_C S1 c n fails tm (A ++ (x.1, x.2.1, false, x.2.2.2) :: B) h ar t ns1 rows1 ∧ q_fr S S1 q_kI q_kR q_kJ) 0 0 := by
  obtain ⟨g1, g2, -, g4, -, -, -, g8, g9⟩ := q_C_at hC
  refine c0_Shelves_pullOut l E S h ar t ns rows hC.2.2.2.1 hC.2.2.2.2.1 x.1 x.2.1 g1 g2 g4 (by omega) (fun h3 => (hC.2.2.2.2.2.2.1.1 x.2.1 x.1).mpr ⟨h3, x, by simp, rfl, rfl, hx⟩) _ ?_
  rintro S1 ⟨ns1, k1, k2, k3, k4⟩
  obtain ⟨rows1, hC1⟩ := q_C_pull hC hx k1 k2 k3 k4
  exact ⟨ns1, rows1, hC1, q_fr_mo k3 q_k_PI q_k_OR (fun _ _ z => z.elim)⟩
theorem c_putC (l : Launch) (E : qE) (S : qS) (c n fails tm : Nat) (A B : List q_X) (x : q_X) (h ar t : Nat) (ns : List Nat) (rows : Nat → List Nat) (hC : q_C S c n fails tm (A ++ x :: B) h ar t ns rows) (hx : x.2.2.1 = false) (htm : tm + 1 < 2 ^ 40) : q_Mv l yX2_putIn cX2_putIn 2 { frames := 3, cells := 1, slots := 4, locals := 55 } E [.ref h, .ref x.1] S (fun S1 => ∃ ns1 rows1, q_C S1 c n fails (tm + 1) (A ++ (x.1, x.2.1, true, tm) :: B) h ar t ns1 rows1 ∧ q_fr S S1 q_kI q_kR q_kJ) 1 4 := by
  obtain ⟨g1, g2, -, g4, -, -, -, g8, g9⟩ := q_C_at hC
  refine c0_Shelves_putIn l E S h ar t ns rows hC.2.2.2.1 hC.2.2.2.2.1 x.1 x.2.1 tm g1 g2 g4 (by omega) (q_C_used hC hx) hC.2.2.2.2.2.1 _ ?_
  rintro S1 ⟨ns1, k1, k2, k3, k4, k5, k6⟩
  obtain ⟨rows1, hC1⟩ := q_C_put hC hx htm k1 k2 k3 k4 k5 k6
  exact ⟨ns1, rows1, hC1, q_fr_mo k3 q_k_PI q_k_PR (fun _ _ _ => trivial)⟩
abbrev q_fk (S S1 : qS) : Prop := q_fr S S1 q_kI q_kR q_kJ
/-- the class, where the shelves' rows need no names -/
def q_CC (S : qS) (c n fails tm : Nat) (P : List q_X) (h ar t : Nat) : Prop := ∃ ns rows, q_C S c n fails tm P h ar t ns rows
set_option maxHeartbeats 4000000 in
set_option maxRecDepth 100000 in
theorem c0_Shelf_cut (l : Launch) (E : qE) (S : qS) (c9 h ar t n9 f9 tm p9 z9 s9 t9 : Nat) (A B : List q_X) (ns : List Nat) (rows : Nat → List Nat) (hC : q_C S c9 n9 f9 tm (A ++ (p9, z9, false, t9) :: B) h ar t ns rows) (hs1 : 1 ≤ s9) (hs2 : s9 < z9) (htm : tm + 1 < 2 ^ 40) (post : qS → Prop) (hpost : ∀ S1, (∃ q, q_CC S1 c9 n9 f9 (tm + 1) (A ++ (p9, s9, false, t9) :: (q, z9 - s9, true, tm) :: B) h ar t ∧ q_fk S S1) → post S1) : q_Mv l yX4_cut cX4_cut 4 { frames := 4, cells := 2, slots := 11, locals := 76 } E [.ref c9, .ref p9, .int (nI s9)] S (post) 2 11 := by
  refine q_ofW1 (by decide) (q_1c rfl (q_1c rfl (q_1c rfl q_1n))) (Nat.le_of_ble_eq_true rfl) (fun p e s m below meth c C hV hr hlk hnm ls hl => ?_)
  have hl : lv_has ls 4 [(0, va_rf (some c9)), (1, va_rf (some p9)), (2, .int (nI s9))] := hl
  obtain ⟨hL_c9, hK_c9, hR8, hL_h, hK_h, hJ⟩ := q_C_cl hC
  obtain ⟨hL_p9, hK_p9, hI0, hI1, hI2, -, -, hsz, hn9⟩ := q_C_at hC
  refine n_Piece C hV wd_115 (by decide) (by decide) dX4_cut_0 (fun q0 H hq0 hV => ?_)
  have hf0 : q_fr S (S.nO q0 0) q_c0 q_c0 q_c0 := q_fr_nO hq0
  have hL_p0 := (hf0.1 p9 hL_p9).1
  have hK_p0 : (S.nO q0 0).K p9 = 0 := (hf0.1 p9 hL_p9).2.1.trans hK_p9
  have hI00 : (S.nO q0 0).I 0 p9 = nI (1 + q_sz A) := (hf0.2.1 p9 hL_p9 0 id).trans hI0
  have hI10 : (S.nO q0 0).I 1 p9 = nI z9 := (hf0.2.1 p9 hL_p9 1 id).trans hI1
  have hR00 : (S.nO q0 0).R 0 p9 = S.R 0 p9 := hf0.2.2.1 p9 hL_p9 0 id
  refine lv_dup C.1 C.2.1 dX4_cut_3 rfl ?_
  refine q_aload_n (r := some p9) C dX4_cut_4 rfl (lv_at hl 1 rfl) ?_
  refine g_Piece_at C hV hL_p0 hK_p0 (Or.inr ⟨_, wd_122⟩) dX4_cut_5 ?_
  refine q_ti (v' := nI (1 + q_sz A)) (hI00) ?_
  refine lv_iload_n C.1 C.2.1 dX4_cut_8 rfl (lv_at hl 2 rfl) ?_
  refine lv_iadd C.1 C.2.1 dX4_cut_9 ?_
  refine q_aload_n (r := some p9) C dX4_cut_10 rfl (lv_at hl 1 rfl) ?_
  refine g_Piece_cells C hV hL_p0 hK_p0 (Or.inr ⟨_, wd_124⟩) dX4_cut_11 ?_
  refine q_ti (v' := nI z9) (hI10) ?_
  refine lv_iload_n C.1 C.2.1 dX4_cut_14 rfl (lv_at hl 2 rfl) ?_
  refine lv_isub C.1 C.2.1 dX4_cut_15 ?_
  refine q_aload_n (r := some p9) C dX4_cut_16 rfl (lv_at hl 1 rfl) ?_
  refine g_Piece_behind C hV hL_p0 hK_p0 (Or.inr ⟨_, wd_131⟩) dX4_cut_17 ?_
  refine q_tr (v' := S.R 0 p9) (hR00) ?_
  refine q_cv hV (q_rI (b := q0) (As := [.int ((nI (1 + q_sz A)) + (nI s9)), .int ((nI z9) - (nI s9)), va_rf (S.R 0 p9)]) (rest := [va_rf (some q0)]) C hV (c_Piece_init l E (S.nO q0 0) q0 (nI (1 + q_sz A) + nI s9) (nI z9 - nI s9) (S.R 0 p9) (q_nO_in _ _ _) (q_nO_K _ _ _)) wd_119 (Or.inr ⟨_, wd_117⟩) wd_118 wd_41 rfl ok_X0_init ⟨rfl, rfl, Nat.le_of_ble_eq_true rfl, Nat.le_of_ble_eq_true rfl⟩ rfl hl.1 rfl (q_sm (q_1c (q_cat _) q_1n) (Nat.le_of_ble_eq_true rfl)) dX4_cut_20 ⟨Nat.le_of_ble_eq_true rfl, Nat.le_of_ble_eq_true rfl⟩) (fun S20 H locs hp20 hV => ?_)
  subst hp20
  obtain ⟨hfq, hq1, hq2, -, -, -, -⟩ := q_fresh (A := S) (q := q0) (a := nI (1 + q_sz A) + nI s9) (n := nI z9 - nI s9) (b := S.R 0 p9) hq0
  have hV : q_V E s (q_pcn S q0 (nI (1 + q_sz A) + nI s9) (nI z9 - nI s9) (S.R 0 p9)) H locs := hV
  have hL_p2 : p9 ∈ (q_pcn S q0 (nI (1 + q_sz A) + nI s9) (nI z9 - nI s9) (S.R 0 p9)).L := (hfq.1 p9 hL_p9).1
  have hK_p2 : (q_pcn S q0 (nI (1 + q_sz A) + nI s9) (nI z9 - nI s9) (S.R 0 p9)).K p9 = 0 := (hfq.1 p9 hL_p9).2.1.trans hK_p9
  refine q_astore_n (r := some q0) (lv' := [(3, va_rf (some q0)), (0, va_rf (some c9)), (1, va_rf (some p9)), (2, .int (nI s9))]) C dX4_cut_23 rfl hl (by decide) (q_k0 (q_kN 0 rfl (by decide) (by decide) (q_kN 1 rfl (by decide) (by decide) (q_kC 2 rfl (by decide) rfl q_kz)))) (fun ls hl => ?_)
  refine q_aload_n (r := some p9) C dX4_cut_24 rfl (lv_at hl 2 rfl) ?_
  refine lv_iload_n C.1 C.2.1 dX4_cut_25 rfl (lv_at hl 3 rfl) ?_
  refine p_Piece_cells (v := nI s9) C hV hL_p2 hK_p2 (Or.inr ⟨_, wd_124⟩) dX4_cut_26 (fun H locs hV => ?_)
  refine q_aload_n (r := some p9) C dX4_cut_29 rfl (lv_at hl 2 rfl) ?_
  refine q_aload_n (r := some q0) C dX4_cut_30 rfl (lv_at hl 0 rfl) ?_
  refine p_Piece_behind (v := some q0) C hV hL_p2 hK_p2 (Or.inr ⟨_, wd_131⟩) dX4_cut_31 (fun H locs hV => ?_)
  obtain ⟨S6, hS6⟩ : ∃ X : qS, X = ((q_pcn S q0 (nI (1 + q_sz A) + nI s9) (nI z9 - nI s9) (S.R 0 p9)).sI 1 p9 (nI s9)).sR 0 p9 (some q0) := ⟨_, rfl⟩
  have hV : q_V E s S6 H locs := by rw [hS6]; exact hV
  obtain ⟨hC6, hf6⟩ := q_C_cut hC hs1 hs2 hq0 hS6
  rw [show A ++ (p9, s9, false, t9) :: (q0, z9 - s9, false, 0) :: B = (A ++ [(p9, s9, false, t9)]) ++ (q0, z9 - s9, false, 0) :: B from by simp] at hC6
  obtain ⟨hL_c6, hK_c6, hR86, hL_h6, hK_h6, -⟩ := q_C_cl hC6
  refine q_aload_n (r := some c9) C dX4_cut_34 rfl (lv_at hl 1 rfl) ?_
  refine g_Shelf_shelves C hV hL_c6 hK_c6 (Or.inl wd_177) dX4_cut_35 ?_
  refine q_tr (v' := some h) (hR86) ?_
  refine q_aload_n (r := some q0) C dX4_cut_38 rfl (lv_at hl 0 rfl) ?_
  refine q_cv hV (q_rN (b := h) (As := [va_rf (some q0)]) (rest := []) C hV (c_putC l E S6 c9 n9 f9 tm (A ++ [(p9, s9, false, t9)]) B (q0, z9 - s9, false, 0) h ar t ns rows hC6 rfl htm) wd_154 wd_151 wd_153 wd_2 wd_38 ok_X2_putIn ⟨rfl, rfl, Nat.le_of_ble_eq_true rfl, Nat.le_of_ble_eq_true rfl⟩ (q_rc2 hV hL_h6 hK_h6) rfl hl.1 rfl (q_sm q_1n (Nat.le_of_ble_eq_true rfl)) dX4_cut_39 ⟨Nat.le_of_ble_eq_true rfl, Nat.le_of_ble_eq_true rfl⟩) (fun S39 H locs hp39 hV => ?_)
  refine q_vret C hV hr hlk (by decide) (by decide) dX4_cut_42 ?_
  obtain ⟨ns1, rows1, hC1, hf1⟩ := hp39
  rw [show (A ++ [(p9, s9, false, t9)]) ++ (q0, z9 - s9, true, tm) :: B = A ++ (p9, s9, false, t9) :: (q0, z9 - s9, true, tm) :: B from by simp] at hC1
  exact hpost _ ⟨q0, ⟨ns1, rows1, hC1⟩, q_fr_tr (q_fr_mo hf6 (fun j x z => by rw [z.1]; exact Nat.le_of_ble_eq_true rfl) (fun j x z => by rw [z.1]; exact Nat.le_of_ble_eq_true rfl) (fun _ _ z => z.elim)) hf1⟩
theorem c_Shelf_cut (l : Launch) (E : qE) (S : qS) (c9 h ar t n9 f9 tm p9 z9 s9 t9 : Nat) (A B : List q_X) (ns : List Nat) (rows : Nat → List Nat) (hC : q_C S c9 n9 f9 tm (A ++ (p9, z9, false, t9) :: B) h ar t ns rows) (hs1 : 1 ≤ s9) (hs2 : s9 < z9) (htm : tm + 1 < 2 ^ 40) : q_Mv l yX4_cut cX4_cut 4 { frames := 4, cells := 2, slots := 11, locals := 76 } E [.ref c9, .ref p9, .int (nI s9)] S (fun S1 => ∃ q, q_CC S1 c9 n9 f9 (tm + 1) (A ++ (p9, s9, false, t9) :: (q, z9 - s9, true, tm) :: B) h ar t ∧ q_fk S S1) 2 11 := c0_Shelf_cut l E S c9 h ar t n9 f9 tm p9 z9 s9 t9 A B ns rows hC hs1 hs2 htm _ (fun _ h => h)

/-- what a free piece becomes that swallows F -/
def q_sw (tm : Nat) (x : q_X) (F : List q_X) : q_X := if F = [] then x else (x.1, x.2.1 + q_sz F, true, tm)
def q_st (tm : Nat) (F : List q_X) : Nat := if F = [] then tm else tm + 1
set_option maxHeartbeats 4000000 in
set_option maxRecDepth 100000 in
theorem c0_Shelf_swallow (l : Launch) (E : qE) (S : qS) (c9 h ar t n9 f9 tm : Nat) (A F B : List q_X) (x : q_X) (ns : List Nat) (rows : Nat → List Nat) (hC : q_C S c9 n9 f9 tm (A ++ x :: (F ++ B)) h ar t ns rows) (hx : x.2.2.1 = true) (hF : ∀ y ∈ F, y.2.2.1 = true) (hB : ∀ y, B.head? = some y → y.2.2.1 = false) (htm : tm + 1 < 2 ^ 40) (post : Int32 → qS → Prop) (hpost : ∀ r S1, (r = nI F.length ∧ q_CC S1 c9 n9 f9 (q_st tm F) (A ++ q_sw tm x F :: B) h ar t ∧ q_fk S S1) → post r S1) : q_Mi l yX4_swallowFreeBehind cX4_swallowFreeBehind 4 .int { frames := 4, cells := 1, slots := 4, locals := 76 } E [.ref c9, .ref x.1] S (post) 1 4 := by
  refine q_ofW1 (by decide) (q_1c rfl (q_1c rfl q_1n)) (Nat.le_of_ble_eq_true rfl) (fun p e s m below meth c C hV hr hlk hnm ls hl => ?_)
  have hl : lv_has ls 4 [(0, va_rf (some c9)), (1, va_rf (some x.1))] := hl
  obtain ⟨px, hpx⟩ : ∃ px : Nat, px = x.1 := ⟨_, rfl⟩
  obtain ⟨hL_c9, hK_c9, hR8, hL_h, hK_h, hJ⟩ := q_C_cl hC
  obtain ⟨hL_px, hK_px, -, -, -, hchx, -, hsz, hn9⟩ := q_C_at hC
  rw [← hpx] at hL_px hK_px hchx hl
  have hl : lv_has ls 4 [(0, va_rf (some c9)), (1, va_rf (some px))] := hl
  have loop : ∀ (k : Nat) (pp : Option Nat) (i : Int32) (k9 z : Nat) (F9 : List q_X) (ns9 : List Nat) (rows9 : Nat → List Nat) (S' : qS) (H : Heap) (locs : List Loc) (ls : Array Slot), F9.length < k → q_V E s S' H locs → lv_has ls 4 [(3, va_rf (pp)), (2, .int (i)), (0, va_rf (some c9)), (1, va_rf (some px))] → q_C S' c9 n9 f9 tm (A ++ (px, z, false, x.2.2.2) :: (F9 ++ B)) h ar t ns9 rows9 → z + q_sz F9 = x.2.1 + q_sz F → k9 + F9.length = F.length → i = nI k9 → q_ch (S'.R 0) pp (q_ad (F9 ++ B)) → (∀ a ∈ F9, a.2.2.1 = true) → q_fk S S' → F ≠ [] → W p l e ({ frames := 4, cells := 1, slots := 4, locals := 76 } : Room) s m [.ref c9, .ref x.1].toArray below meth c H locs (0) (0) (MQ below (va_Qi (post) (q_B E) E.A) [.ref c9, .ref x.1].toArray s (1) (4) E.A) (F0 m 34 ls []) := by
    intro k
    induction k with
    | zero => intro pp i k9 z F9 ns9 rows9 S' H locs ls hk; exact absurd hk (Nat.not_lt_zero _)
    | succ k ih =>
      intro pp i k9 z F9 ns9 rows9 S' H locs ls hk hV hl hC9 hz hkk hi hch hFF hfS hFne
      refine q_aload_n (r := pp) C dX4_swallowFreeBehind_34 rfl (lv_at hl 0 rfl) ?_
      refine q_ifnull (r := pp) (tgt := 85) C dX4_swallowFreeBehind_35 (by decide) (fun c35 => ?_) (fun x35 c35 => ?_)
      · subst c35
        have hFB : F9 = [] ∧ B = [] := by
          cases F9 with
          | nil => cases B with
            | nil => exact ⟨rfl, rfl⟩
            | cons b B => exact nomatch hch.1
          | cons b F9 => exact nomatch hch.1
        obtain ⟨rfl, hBe⟩ := hFB
        have hC9 : q_C S' c9 n9 f9 tm (A ++ (px, z, false, x.2.2.2) :: B) h ar t ns9 rows9 := hC9
        obtain ⟨hL_c8, hK_c8, hR88, hL_h8, hK_h8, -⟩ := q_C_cl hC9
        refine q_aload_n (r := some c9) C dX4_swallowFreeBehind_85 rfl (lv_at hl 2 rfl) ?_
        refine g_Shelf_shelves C hV hL_c8 hK_c8 (Or.inl wd_177) dX4_swallowFreeBehind_86 ?_
        refine q_tr (v' := some h) (hR88) ?_
        refine q_aload_n (r := some px) C dX4_swallowFreeBehind_89 rfl (lv_at hl 3 rfl) ?_
        refine q_cv hV (q_rN (b := h) (As := [va_rf (some px)]) (rest := []) C hV (c_putC l E S' c9 n9 f9 tm A B (px, z, false, x.2.2.2) h ar t ns9 rows9 hC9 rfl htm) wd_154 wd_151 wd_153 wd_2 wd_38 ok_X2_putIn ⟨rfl, rfl, Nat.le_of_ble_eq_true rfl, Nat.le_of_ble_eq_true rfl⟩ (q_rc2 hV hL_h8 hK_h8) rfl hl.1 rfl (q_sm q_1n (Nat.le_of_ble_eq_true rfl)) dX4_swallowFreeBehind_90 ⟨Nat.le_of_ble_eq_true rfl, Nat.le_of_ble_eq_true rfl⟩) (fun S90 H locs hp90 hV => ?_)
        refine lv_iload_n C.1 C.2.1 dX4_swallowFreeBehind_93 rfl (lv_at hl 1 rfl) ?_
        refine q_iret (v := i) C hV hr hlk (by decide) (by decide) dX4_swallowFreeBehind_94 ?_
        obtain ⟨ns1, rows1, hC1, hf1⟩ := hp90
        refine hpost _ _ ⟨?_, ?_, q_fr_tr hfS hf1⟩
        · rw [hi, show k9 = F.length from by simp at hkk; omega]
        · refine ⟨ns1, rows1, ?_⟩
          rw [q_st, if_neg hFne, q_sw, if_neg hFne, show x.2.1 + q_sz F = z from by simp only [q_sz] at hz; omega, ← hpx]
          exact hC1
      · subst c35
        obtain ⟨y, R, hFB, hyp⟩ : ∃ y R, F9 ++ B = y :: R ∧ y.1 = x35 := by
          cases hR : F9 ++ B with
          | nil => rw [hR] at hch; exact nomatch (show some x35 = none from hch)
          | cons y R => rw [hR] at hch; exact ⟨y, R, rfl, (Option.some.inj hch.1).symm⟩
        subst hyp
        have hCy : q_C S' c9 n9 f9 tm ((A ++ [(px, z, false, x.2.2.2)]) ++ y :: R) h ar t ns9 rows9 := by rw [hFB] at hC9; simpa using hC9
        obtain ⟨hL_y, hK_y, -, hI1y, hI2y, -, -, -, -⟩ := q_C_at hCy
        refine q_aload_n (r := some y.1) C dX4_swallowFreeBehind_38 rfl (lv_at hl 0 rfl) ?_
        refine g_Piece_isFree C hV hL_y hK_y (Or.inr ⟨_, wd_127⟩) dX4_swallowFreeBehind_39 ?_
        refine q_ti (v' := q_fl y.2.2.1) (hI2y) ?_
        refine lv_if_eq (tgt := 85) C.1 C.2.1 dX4_swallowFreeBehind_42 (by decide) (fun c42 => ?_) (fun c42 => ?_)
        · have hyf : y.2.2.1 = false := q_fl0.mp c42
          obtain ⟨rfl⟩ : F9 = [] := by
            cases F9 with
            | nil => rfl
            | cons b F2 => rw [List.cons_append] at hFB; obtain ⟨e1, -⟩ := List.cons.inj hFB; rw [← e1, hFF b List.mem_cons_self] at hyf; exact nomatch hyf
          have hC9 : q_C S' c9 n9 f9 tm (A ++ (px, z, false, x.2.2.2) :: B) h ar t ns9 rows9 := hC9
          obtain ⟨hL_c8, hK_c8, hR88, hL_h8, hK_h8, -⟩ := q_C_cl hC9
          refine q_aload_n (r := some c9) C dX4_swallowFreeBehind_85 rfl (lv_at hl 2 rfl) ?_
          refine g_Shelf_shelves C hV hL_c8 hK_c8 (Or.inl wd_177) dX4_swallowFreeBehind_86 ?_
          refine q_tr (v' := some h) (hR88) ?_
          refine q_aload_n (r := some px) C dX4_swallowFreeBehind_89 rfl (lv_at hl 3 rfl) ?_
          refine q_cv hV (q_rN (b := h) (As := [va_rf (some px)]) (rest := []) C hV (c_putC l E S' c9 n9 f9 tm A B (px, z, false, x.2.2.2) h ar t ns9 rows9 hC9 rfl htm) wd_154 wd_151 wd_153 wd_2 wd_38 ok_X2_putIn ⟨rfl, rfl, Nat.le_of_ble_eq_true rfl, Nat.le_of_ble_eq_true rfl⟩ (q_rc2 hV hL_h8 hK_h8) rfl hl.1 rfl (q_sm q_1n (Nat.le_of_ble_eq_true rfl)) dX4_swallowFreeBehind_90 ⟨Nat.le_of_ble_eq_true rfl, Nat.le_of_ble_eq_true rfl⟩) (fun S90 H locs hp90 hV => ?_)
          refine lv_iload_n C.1 C.2.1 dX4_swallowFreeBehind_93 rfl (lv_at hl 1 rfl) ?_
          refine q_iret (v := i) C hV hr hlk (by decide) (by decide) dX4_swallowFreeBehind_94 ?_
          obtain ⟨ns1, rows1, hC1, hf1⟩ := hp90
          refine hpost _ _ ⟨?_, ?_, q_fr_tr hfS hf1⟩
          · rw [hi, show k9 = F.length from by simp at hkk; omega]
          · refine ⟨ns1, rows1, ?_⟩
            rw [q_st, if_neg hFne, q_sw, if_neg hFne, show x.2.1 + q_sz F = z from by simp only [q_sz] at hz; omega, ← hpx]
            exact hC1
        · have hyf : y.2.2.1 = true := by cases e9 : y.2.2.1 with
            | true => rfl
            | false => exact absurd (q_fl0.mpr e9) c42
          obtain ⟨F2, rfl⟩ : ∃ F2, F9 = y :: F2 := by
            cases F9 with
            | nil => exact absurd (hB y (by rw [show B = y :: R from hFB]; rfl)) (by rw [hyf]; exact fun z => nomatch z)
            | cons b F2 => rw [List.cons_append] at hFB; obtain ⟨e1, -⟩ := List.cons.inj hFB; exact ⟨F2, by rw [e1]⟩
          obtain ⟨rfl⟩ : F2 ++ B = R := by simpa using hFB
          obtain ⟨hL_c8, hK_c8, hR89, hL_h8, hK_h8, -⟩ := q_C_cl hCy
          refine q_aload_n (r := some c9) C dX4_swallowFreeBehind_45 rfl (lv_at hl 2 rfl) ?_
          refine g_Shelf_shelves C hV hL_c8 hK_c8 (Or.inl wd_177) dX4_swallowFreeBehind_46 ?_
          refine q_tr (v' := some h) (hR89) ?_
          refine q_aload_n (r := some y.1) C dX4_swallowFreeBehind_49 rfl (lv_at hl 0 rfl) ?_
          refine q_cv hV (q_rN (b := h) (As := [va_rf (some y.1)]) (rest := []) C hV (c_pullC l E S' c9 n9 f9 tm (A ++ [(px, z, false, x.2.2.2)]) (F2 ++ B) y h ar t ns9 rows9 hCy hyf) wd_201 wd_198 wd_200 wd_9 wd_38 ok_X2_pullOut ⟨rfl, rfl, Nat.le_of_ble_eq_true rfl, Nat.le_of_ble_eq_true rfl⟩ (q_rc2 hV hL_h8 hK_h8) rfl hl.1 rfl (q_sm q_1n (Nat.le_of_ble_eq_true rfl)) dX4_swallowFreeBehind_50 ⟨Nat.le_of_ble_eq_true rfl, Nat.le_of_ble_eq_true rfl⟩) (fun S50 H locs hp50 hV => ?_)
          obtain ⟨ns50, rows50, hC50, hf50⟩ := hp50
          have hC50 : q_C S50 c9 n9 f9 tm (A ++ (px, z, false, x.2.2.2) :: (y.1, y.2.1, false, y.2.2.2) :: (F2 ++ B)) h ar t ns50 rows50 := by simpa using hC50
          obtain ⟨hL_x5, hK_x5, -, hI1x5, -, -, -, -, -⟩ := q_C_at hC50
          obtain ⟨hL_y5, hK_y5, -, hI1y5, -, -, -, -, -⟩ := q_C_at (A := A ++ [(px, z, false, x.2.2.2)]) (x := (y.1, y.2.1, false, y.2.2.2)) (B := F2 ++ B) (by simpa using hC50)
          have hyx : y.1 ≠ px := q_nd_mid (q_line_nd hC50.1) (y.1, y.2.1, false, y.2.2.2) (by simp)
          refine q_aload_n (r := some px) C dX4_swallowFreeBehind_53 rfl (lv_at hl 3 rfl) ?_
          refine lv_dup C.1 C.2.1 dX4_swallowFreeBehind_54 rfl ?_
          refine g_Piece_cells C hV hL_x5 hK_x5 (Or.inr ⟨_, wd_124⟩) dX4_swallowFreeBehind_55 ?_
          refine q_ti (v' := nI z) (hI1x5) ?_
          refine q_aload_n (r := some y.1) C dX4_swallowFreeBehind_58 rfl (lv_at hl 0 rfl) ?_
          refine g_Piece_cells C hV hL_y5 hK_y5 (Or.inr ⟨_, wd_124⟩) dX4_swallowFreeBehind_59 ?_
          refine q_ti (v' := nI y.2.1) (hI1y5) ?_
          refine lv_iadd C.1 C.2.1 dX4_swallowFreeBehind_62 ?_
          refine p_Piece_cells (v := (nI z) + (nI y.2.1)) C hV hL_x5 hK_x5 (Or.inr ⟨_, wd_124⟩) dX4_swallowFreeBehind_63 (fun H locs hV => ?_)
          refine q_aload_n (r := some px) C dX4_swallowFreeBehind_66 rfl (lv_at hl 3 rfl) ?_
          refine q_aload_n (r := some y.1) C dX4_swallowFreeBehind_67 rfl (lv_at hl 0 rfl) ?_
          refine g_Piece_behind C hV hL_y5 hK_y5 (Or.inr ⟨_, wd_131⟩) dX4_swallowFreeBehind_68 ?_
          refine q_nr (fun r68 h68 => ?_)
          refine p_Piece_behind (v := r68) C hV hL_x5 hK_x5 (Or.inr ⟨_, wd_131⟩) dX4_swallowFreeBehind_71 (fun H locs hV => ?_)
          obtain ⟨S6, hS6⟩ : ∃ X : qS, X = (S50.sI 1 px (nI z + nI y.2.1)).sR 0 px (S50.R 0 y.1) := ⟨_, rfl⟩
          have hV : q_V E s S6 H locs := by rw [hS6]; rw [q_RI] at h68; rw [← h68]; exact hV
          obtain ⟨hC6, hf6⟩ := q_C_merge hC50 hS6
          have hL_y6 : y.1 ∈ S6.L := (hf6.1 y.1 hL_y5).1
          have hK_y6 : S6.K y.1 = 0 := (hf6.1 y.1 hL_y5).2.1.trans hK_y5
          obtain ⟨i74, e74⟩ : ∃ y : Int32, y = i + 1 := ⟨_, rfl⟩
          refine q_iinc (v := i74) (k := 1) (lv' := [(2, .int (i74)), (3, va_rf (some y.1)), (0, va_rf (some c9)), (1, va_rf (some px))]) C dX4_swallowFreeBehind_74 hl rfl (by rw [e74]; rfl) (by decide) (q_k0 (q_kN 0 rfl (by decide) (by decide) (q_kN 2 rfl (by decide) (by decide) (q_kC 3 rfl (by decide) (q_cat _) q_kz)))) (fun ls hl => ?_)
          refine q_aload_n (r := some y.1) C dX4_swallowFreeBehind_77 rfl (lv_at hl 1 rfl) ?_
          refine g_Piece_behind C hV hL_y6 hK_y6 (Or.inr ⟨_, wd_131⟩) dX4_swallowFreeBehind_78 ?_
          refine q_nr (fun r78 h78 => ?_)
          refine q_astore_n (r := r78) (lv' := [(3, va_rf (r78)), (2, .int (i74)), (0, va_rf (some c9)), (1, va_rf (some px))]) C dX4_swallowFreeBehind_81 rfl hl (by decide) (q_k0 (q_kC 0 rfl (by decide) rfl (q_kN 2 rfl (by decide) (by decide) (q_kN 3 rfl (by decide) (by decide) q_kz)))) (fun ls hl => ?_)
          refine lv_goto (tgt := 34) C.1 C.2.1 dX4_swallowFreeBehind_82 (by decide) ?_
          have e78 : r78 = S6.R 0 px := by rw [h78, hS6, qR_ne _ _ _ _ hyx, qR_self, q_RI]
          subst e78
          exact ih (S6.R 0 px) i74 (k9 + 1) (z + y.2.1) F2 ns50 rows50 S6 H locs ls (by simp at hk; omega) hV hl hC6 (by simp only [q_sz] at hz; omega) (by simp only [List.length_cons] at hkk; omega) (by rw [e74, hi]; exact nI_1 k9) (q_C_at hC6).2.2.2.2.2.1 (fun a ha => hFF a (List.mem_cons_of_mem _ ha)) (q_fr_tr hfS (q_fr_tr hf50 (q_fr_mo hf6 (fun j x z => by rw [z.1]; exact Nat.le_of_ble_eq_true rfl) (fun j x z => by rw [z.1]; exact Nat.le_of_ble_eq_true rfl) (fun _ _ z => z.elim)))) hFne
  refine q_aload_n (r := some px) C dX4_swallowFreeBehind_0 rfl (lv_at hl 1 rfl) ?_
  refine g_Piece_behind C hV hL_px hK_px (Or.inr ⟨_, wd_131⟩) dX4_swallowFreeBehind_1 ?_
  refine q_nr (fun r1 h1 => ?_)
  refine q_ifnull (r := r1) (tgt := 17) C dX4_swallowFreeBehind_4 (by decide) (fun c4 => ?_) (fun x4 c4 => ?_)
  · subst c4
    have hFe : F = [] := by
      cases F with
      | nil => rfl
      | cons b F2 => rw [← h1] at hchx; exact nomatch hchx.1
    refine lv_iconst (v := 0) C.1 C.2.1 dX4_swallowFreeBehind_17 (by decide) ?_
    refine q_iret (v := 0) C hV hr hlk (by decide) (by decide) dX4_swallowFreeBehind_18 ?_
    refine hpost _ _ ⟨?_, ?_, q_fr_rf⟩
    · rw [hFe]; exact nI_0.symm
    · rw [hFe]; exact ⟨ns, rows, by rw [hFe] at hC; exact hC⟩
  · subst c4
    have hR01 : S.R 0 px = some x4 := h1.symm
    obtain ⟨y, R, hFB, hyp⟩ : ∃ y R, F ++ B = y :: R ∧ y.1 = x4 := by
      rw [hR01] at hchx
      cases hR : F ++ B with
      | nil => rw [hR] at hchx; exact nomatch (show some x4 = none from hchx)
      | cons y R => rw [hR] at hchx; exact ⟨y, R, rfl, (Option.some.inj hchx.1).symm⟩
    subst hyp
    have hCy : q_C S c9 n9 f9 tm ((A ++ [x]) ++ y :: R) h ar t ns rows := by rw [hFB] at hC; simpa using hC
    obtain ⟨hL_y, hK_y, -, -, hI2y, -, -, -, -⟩ := q_C_at hCy
    refine q_aload_n (r := some px) C dX4_swallowFreeBehind_7 rfl (lv_at hl 1 rfl) ?_
    refine g_Piece_behind C hV hL_px hK_px (Or.inr ⟨_, wd_131⟩) dX4_swallowFreeBehind_8 ?_
    refine q_tr (v' := some y.1) (hR01) ?_
    refine g_Piece_isFree C hV hL_y hK_y (Or.inr ⟨_, wd_127⟩) dX4_swallowFreeBehind_11 ?_
    refine q_ti (v' := q_fl y.2.2.1) (hI2y) ?_
    refine lv_if_ne (tgt := 19) C.1 C.2.1 dX4_swallowFreeBehind_14 (by decide) (fun c14 => ?_) (fun c14 => ?_)
    · have hFne : F ≠ [] := by
        intro hFe
        rw [hFe] at hFB
        have := hB y (by rw [show B = y :: R from hFB]; rfl)
        rw [this] at c14; exact c14 rfl
      refine q_aload_n (r := some c9) C dX4_swallowFreeBehind_19 rfl (lv_at hl 0 rfl) ?_
      refine g_Shelf_shelves C hV hL_c9 hK_c9 (Or.inl wd_177) dX4_swallowFreeBehind_20 ?_
      refine q_tr (v' := some h) (hR8) ?_
      refine q_aload_n (r := some px) C dX4_swallowFreeBehind_23 rfl (lv_at hl 1 rfl) ?_
      refine q_cv hV (q_rN (b := h) (As := [va_rf (some px)]) (rest := []) C hV (c_pullC l E S c9 n9 f9 tm A (F ++ B) (px, x.2) h ar t ns rows (by rw [hpx]; exact hC) hx) wd_201 wd_198 wd_200 wd_9 wd_38 ok_X2_pullOut ⟨rfl, rfl, Nat.le_of_ble_eq_true rfl, Nat.le_of_ble_eq_true rfl⟩ (q_rc2 hV hL_h hK_h) rfl hl.1 rfl (q_sm q_1n (Nat.le_of_ble_eq_true rfl)) dX4_swallowFreeBehind_24 ⟨Nat.le_of_ble_eq_true rfl, Nat.le_of_ble_eq_true rfl⟩) (fun S24 H locs hp24 hV => ?_)
      obtain ⟨ns24, rows24, hC24, hf24⟩ := hp24
      have hC24 : q_C S24 c9 n9 f9 tm (A ++ (px, x.2.1, false, x.2.2.2) :: (F ++ B)) h ar t ns24 rows24 := hC24
      obtain ⟨hL_x24, hK_x24, -, -, -, -, -, -, -⟩ := q_C_at hC24
      refine lv_iconst (v := 0) C.1 C.2.1 dX4_swallowFreeBehind_27 (by decide) ?_
      refine q_istore_n (x := 0) (lv' := [(2, .int (0)), (0, va_rf (some c9)), (1, va_rf (some px))]) C dX4_swallowFreeBehind_28 rfl hl (by decide) (q_k0 (q_kN 0 rfl (by decide) (by decide) (q_kC 1 rfl (by decide) (q_cat _) q_kz))) (fun ls hl => ?_)
      refine q_aload_n (r := some px) C dX4_swallowFreeBehind_29 rfl (lv_at hl 2 rfl) ?_
      refine g_Piece_behind C hV hL_x24 hK_x24 (Or.inr ⟨_, wd_131⟩) dX4_swallowFreeBehind_30 ?_
      refine q_nr (fun r30 h30 => ?_)
      refine q_astore_n (r := r30) (lv' := [(3, va_rf (r30)), (2, .int (0)), (0, va_rf (some c9)), (1, va_rf (some px))]) C dX4_swallowFreeBehind_33 rfl hl (by decide) (q_k0 (q_kC 0 rfl (by decide) rfl (q_kN 1 rfl (by decide) (by decide) (q_kN 2 rfl (by decide) (by decide) q_kz)))) (fun ls hl => ?_)
      subst h30
      have eF : F ≠ [] := hFne
      exact loop (F.length + 1) (S24.R 0 px) 0 0 x.2.1 F ns24 rows24 S24 H locs ls (Nat.lt_succ_self _) hV hl hC24 rfl (Nat.zero_add _) nI_0.symm (q_C_at hC24).2.2.2.2.2.1 hF hf24 hFne
    · have hFe : F = [] := by
        cases F with
        | nil => rfl
        | cons b F2 => rw [List.cons_append] at hFB; obtain ⟨e1, -⟩ := List.cons.inj hFB; rw [← e1, hF b List.mem_cons_self] at c14; exact absurd c14 (by decide)
      refine lv_iconst (v := 0) C.1 C.2.1 dX4_swallowFreeBehind_17 (by decide) ?_
      refine q_iret (v := 0) C hV hr hlk (by decide) (by decide) dX4_swallowFreeBehind_18 ?_
      refine hpost _ _ ⟨?_, ?_, q_fr_rf⟩
      · rw [hFe]; exact nI_0.symm
      · rw [hFe]; exact ⟨ns, rows, by rw [hFe] at hC; exact hC⟩
theorem c_Shelf_swallow (l : Launch) (E : qE) (S : qS) (c9 h ar t n9 f9 tm : Nat) (A F B : List q_X) (x : q_X) (ns : List Nat) (rows : Nat → List Nat) (hC : q_C S c9 n9 f9 tm (A ++ x :: (F ++ B)) h ar t ns rows) (hx : x.2.2.1 = true) (hF : ∀ y ∈ F, y.2.2.1 = true) (hB : ∀ y, B.head? = some y → y.2.2.1 = false) (htm : tm + 1 < 2 ^ 40) : q_Mi l yX4_swallowFreeBehind cX4_swallowFreeBehind 4 .int { frames := 4, cells := 1, slots := 4, locals := 76 } E [.ref c9, .ref x.1] S (fun r S1 => r = nI F.length ∧ q_CC S1 c9 n9 f9 (q_st tm F) (A ++ q_sw tm x F :: B) h ar t ∧ q_fk S S1) 1 4 := c0_Shelf_swallow l E S c9 h ar t n9 f9 tm A F B x ns rows hC hx hF hB htm _ (fun _ _ h => h)
end
section
/-! JOINING over the values -/
abbrev v_V : Type := List (Nat × Bool × Nat)
def v_sw (tm : Nat) (x : Nat × Bool × Nat) (F : v_V) : Nat × Bool × Nat := if F = [] then x else (x.1 + v_sz F, true, tm)
def v_st (tm : Nat) (F : v_V) : Nat := if F = [] then tm else tm + 1
def v_ja : Nat → v_V → Nat → v_V × Nat × Nat
  | 0, V, tm => (V, tm, 0)
  | _ + 1, [], tm => ([], tm, 0)
  | k + 1, x :: R, tm => if x.2.1 = true then (v_sw tm x (R.takeWhile (fun y => y.2.1)) :: (v_ja k (R.dropWhile (fun y => y.2.1)) (v_st tm (R.takeWhile (fun y => y.2.1)))).1, (v_ja k (R.dropWhile (fun y => y.2.1)) (v_st tm (R.takeWhile (fun y => y.2.1)))).2.1, (R.takeWhile (fun y => y.2.1)).length + (v_ja k (R.dropWhile (fun y => y.2.1)) (v_st tm (R.takeWhile (fun y => y.2.1)))).2.2)
    else (x :: (v_ja k R tm).1, (v_ja k R tm).2.1, (v_ja k R tm).2.2)
abbrev q_tk (R : List q_X) : List q_X := R.takeWhile (fun y => y.2.2.1)
abbrev q_dr9 (R : List q_X) : List q_X := R.dropWhile (fun y => y.2.2.1)
theorem q_tk_vl (R : List q_X) : (q_vl R).takeWhile (fun y => y.2.1) = q_vl (q_tk R) := List.takeWhile_map
theorem q_dr_vl (R : List q_X) : (q_vl R).dropWhile (fun y => y.2.1) = q_vl (q_dr9 R) := List.dropWhile_map
theorem q_tk_dr (R : List q_X) : q_tk R ++ q_dr9 R = R := List.takeWhile_append_dropWhile
theorem q_tk_free : ∀ (R : List q_X), ∀ y ∈ q_tk R, y.2.2.1 = true := by
  intro R
  induction R with
  | nil => intro y hy; cases hy
  | cons x R ih =>
    intro y hy
    simp only [q_tk, List.takeWhile_cons] at hy
    split at hy
    · rename_i h
      rcases List.mem_cons.mp hy with e | hy
      · rw [e]; exact h
      · exact ih y hy
    · cases hy
theorem q_dr_head : ∀ (R : List q_X), ∀ y, (q_dr9 R).head? = some y → y.2.2.1 = false := by
  intro R
  induction R with
  | nil => intro y hy; cases hy
  | cons x R ih =>
    intro y hy
    simp only [q_dr9, List.dropWhile_cons] at hy
    split at hy
    · exact ih y hy
    · rename_i h
      cases hy
      cases e : x.2.2.1 with
      | true => exact absurd e h
      | false => rfl
theorem q_dr_len (R : List q_X) : (q_tk R).length + (q_dr9 R).length = R.length := by
  have h := congrArg List.length (q_tk_dr R)
  rw [List.length_append] at h
  exact h
theorem q_vl_nil {F : List q_X} : q_vl F = [] ↔ F = [] := List.map_eq_nil_iff
theorem q_sw_vl (tm : Nat) (x : q_X) (F : List q_X) : (q_sw tm x F).2 = v_sw tm x.2 (q_vl F) := by
  simp only [q_sw, v_sw, q_vl_nil]
  split
  · rfl
  · show (x.2.1 + q_sz F, true, tm) = _; rw [v_sz_vl]
theorem q_sw_1 (tm : Nat) (x : q_X) (F : List q_X) : (q_sw tm x F).1 = x.1 := by
  simp only [q_sw]; split <;> rfl
theorem q_st_vl (tm : Nat) (F : List q_X) : q_st tm F = v_st tm (q_vl F) := by
  simp only [q_st, v_st, q_vl_nil]
theorem v_ja_f {k tm : Nat} {x : q_X} {R : List q_X} (hx : x.2.2.1 = true) : v_ja (k + 1) (q_vl (x :: R)) tm = (v_sw tm x.2 (q_vl (q_tk R)) :: (v_ja k (q_vl (q_dr9 R)) (v_st tm (q_vl (q_tk R)))).1, (v_ja k (q_vl (q_dr9 R)) (v_st tm (q_vl (q_tk R)))).2.1, (q_tk R).length + (v_ja k (q_vl (q_dr9 R)) (v_st tm (q_vl (q_tk R)))).2.2) := by
  show v_ja (k + 1) (x.2 :: q_vl R) tm = _
  rw [v_ja, if_pos hx, q_tk_vl, q_dr_vl]
  simp only [q_vl, List.length_map]
theorem v_ja_u {k tm : Nat} {x : q_X} {R : List q_X} (hx : x.2.2.1 = false) : v_ja (k + 1) (q_vl (x :: R)) tm = (x.2 :: (v_ja k (q_vl R) tm).1, (v_ja k (q_vl R) tm).2.1, (v_ja k (q_vl R) tm).2.2) := by
  show v_ja (k + 1) (x.2 :: q_vl R) tm = _
  rw [v_ja, if_neg (by rw [hx]; exact fun z => nomatch z)]
set_option maxHeartbeats 4000000 in
set_option maxRecDepth 100000 in
theorem c0_Shelf_joinAll (l : Launch) (E : qE) (S : qS) (c9 h ar t n9 f9 tm kb : Nat) (P : List q_X) (ns : List Nat) (rows : Nat → List Nat) (hC : q_C S c9 n9 f9 tm P h ar t ns rows) (hkb : P.length ≤ kb) (htm : tm + P.length < 2 ^ 40) (post : Int32 → qS → Prop) (hpost : ∀ r S1, (r = nI (v_ja P.length (q_vl P) tm).2.2 ∧ ∃ P1, q_vl P1 = (v_ja P.length (q_vl P) tm).1 ∧ q_CC S1 c9 n9 f9 (v_ja P.length (q_vl P) tm).2.1 P1 h ar t ∧ q_fk S S1) → post r S1) : q_Mi l yX4_joinAll cX4_joinAll 3 .int { frames := 5, cells := kb, slots := (4 * kb), locals := 99 } E [.ref c9] S (post) kb (4 * kb) := by
  refine q_ofW1 (by decide) (q_1c rfl q_1n) (Nat.le_of_ble_eq_true rfl) (fun p e s m below meth c C hV hr hlk hnm ls hl => ?_)
  have hl : lv_has ls 3 [(0, va_rf (some c9))] := hl
  obtain ⟨hL_c9, hK_c9, hR8, hL_h, hK_h, hJ⟩ := q_C_cl hC
  have loop : ∀ (k : Nat) (pp : Option Nat) (ac : Int32) (k9 fu cc ss tm9 : Nat) (D R : List q_X) (ns9 : List Nat) (rows9 : Nat → List Nat) (S' : qS) (H : Heap) (locs : List Loc) (ls : Array Slot), fu < k → q_V E s S' H locs → lv_has ls 3 [(2, va_rf (pp)), (1, .int (ac)), (0, va_rf (some c9))] → q_C S' c9 n9 f9 tm9 (D ++ R) h ar t ns9 rows9 → q_ch (S'.R 0) pp (q_ad R) → R.length ≤ fu → ac = nI k9 → cc + R.length ≤ kb → ss + 4 * R.length ≤ 4 * kb → q_fk S S' → tm9 + R.length < 2 ^ 40 → q_vl D ++ (v_ja fu (q_vl R) tm9).1 = (v_ja P.length (q_vl P) tm).1 → (v_ja fu (q_vl R) tm9).2.1 = (v_ja P.length (q_vl P) tm).2.1 → k9 + (v_ja fu (q_vl R) tm9).2.2 = (v_ja P.length (q_vl P) tm).2.2 → W p l e ({ frames := 5, cells := kb, slots := (4 * kb), locals := 99 } : Room) s m [.ref c9].toArray below meth c H locs (cc) (ss) (MQ below (va_Qi (post) (q_B E) E.A) [.ref c9].toArray s (kb) ((4 * kb)) E.A) (F0 m 7 ls []) := by
    intro k
    induction k with
    | zero => intro pp ac k9 fu cc ss tm9 D R ns9 rows9 S' H locs ls hk; exact absurd hk (Nat.not_lt_zero _)
    | succ k ih =>
      intro pp ac k9 fu cc ss tm9 D R ns9 rows9 S' H locs ls hk hV hl hC9 hch hfu hac hcc hss hfS htm9 hVF hTF hGF
      refine q_aload_n (r := pp) C dX4_joinAll_7 rfl (lv_at hl 0 rfl) ?_
      refine q_ifnull (r := pp) (tgt := 34) C dX4_joinAll_8 (by decide) (fun c8 => ?_) (fun x8 c8 => ?_)
      · subst c8
        refine lv_iload_n C.1 C.2.1 dX4_joinAll_34 rfl (lv_at hl 1 rfl) ?_
        refine q_iret (v := ac) C hV hr hlk (by omega) (by omega) dX4_joinAll_35 ?_
        have hRe : R = [] := by cases R with
          | nil => rfl
          | cons y R2 => exact nomatch hch.1
        subst hRe
        have hj0 : v_ja fu (q_vl []) tm9 = ([], tm9, 0) := by cases fu <;> rfl
        rw [hj0] at hVF hTF hGF
        rw [List.append_nil] at hC9
        refine hpost _ _ ⟨by rw [hac]; exact congrArg nI hGF, D, by rw [← hVF]; exact (List.append_nil _).symm, ⟨ns9, rows9, by rw [← hTF]; exact hC9⟩, hfS⟩
      · subst c8
        obtain ⟨y, R2, hRe, hyp⟩ : ∃ y R2, R = y :: R2 ∧ y.1 = x8 := by
          cases R with
          | nil => exact nomatch (show some x8 = none from hch)
          | cons y R2 => exact ⟨y, R2, rfl, (Option.some.inj hch.1).symm⟩
        subst hRe
        subst hyp
        have hch2 := hch.2
        obtain ⟨fu2, rfl⟩ : ∃ f, fu = f + 1 := ⟨fu - 1, by simp only [List.length_cons] at hfu; omega⟩
        have hfu2 : R2.length ≤ fu2 := by simp only [List.length_cons] at hfu; omega
        obtain ⟨hL_y, hK_y, -, -, hI2y, -, -, -, -⟩ := q_C_at hC9
        have hL_c8 : c9 ∈ S'.L := hC9.1.1
        have hK_c8 : S'.K c9 = 4 := hC9.1.2.1
        refine q_aload_n (r := some y.1) C dX4_joinAll_11 rfl (lv_at hl 0 rfl) ?_
        refine g_Piece_isFree C hV hL_y hK_y (Or.inr ⟨_, wd_127⟩) dX4_joinAll_12 ?_
        refine q_ti (v' := q_fl y.2.2.1) (hI2y) ?_
        refine lv_if_eq (tgt := 26) C.1 C.2.1 dX4_joinAll_15 (by decide) (fun c15 => ?_) (fun c15 => ?_)
        · have hyf : y.2.2.1 = false := q_fl0.mp c15
          have hja := v_ja_u (k := fu2) (tm := tm9) (R := R2) hyf
          refine q_aload_n (r := some y.1) C dX4_joinAll_26 rfl (lv_at hl 0 rfl) ?_
          refine g_Piece_behind C hV hL_y hK_y (Or.inr ⟨_, wd_131⟩) dX4_joinAll_27 ?_
          refine q_nr (fun r27 h27 => ?_)
          refine q_astore_n (r := r27) (lv' := [(2, va_rf (r27)), (1, .int (ac)), (0, va_rf (some c9))]) C dX4_joinAll_30 rfl hl (by decide) (q_k0 (q_kC 1 rfl (by decide) rfl (q_kN 2 rfl (by decide) (by decide) q_kz))) (fun ls hl => ?_)
          refine lv_goto (tgt := 7) C.1 C.2.1 dX4_joinAll_31 (by decide) ?_
          subst h27
          exact ih _ ac k9 fu2 cc ss tm9 (D ++ [y]) R2 ns9 rows9 S' H locs ls (by omega) hV hl (by simpa using hC9) hch2 (by omega) hac (by simp only [List.length_cons] at hcc; omega) (by simp only [List.length_cons] at hss; omega) hfS (by simp only [List.length_cons] at htm9; omega) (by rw [← hVF, hja]; simp) (by rw [← hTF, hja]) (by rw [← hGF, hja])
        · have hyf : y.2.2.1 = true := by cases e9 : y.2.2.1 with
            | true => rfl
            | false => exact absurd (q_fl0.mpr e9) c15
          have hja := v_ja_f (k := fu2) (tm := tm9) (R := R2) hyf
          have hlen := q_dr_len R2
          refine lv_iload_n C.1 C.2.1 dX4_joinAll_18 rfl (lv_at hl 1 rfl) ?_
          refine q_aload_n (r := some c9) C dX4_joinAll_19 rfl (lv_at hl 2 rfl) ?_
          refine q_aload_n (r := some y.1) C dX4_joinAll_20 rfl (lv_at hl 0 rfl) ?_
          refine q_ci hV (q_rV (b := c9) (As := [va_rf (some y.1)]) (rest := [.int (ac)]) C hV (c_Shelf_swallow l E S' c9 h ar t n9 f9 tm9 D (q_tk R2) (q_dr9 R2) y ns9 rows9 (by rw [q_tk_dr]; exact hC9) hyf (q_tk_free R2) (q_dr_head R2) (by simp only [List.length_cons] at htm9; omega)) wd_197 wd_194 wd_196 wd_8 wd_37 ok_X4_swallowFreeBehind ⟨rfl, rfl, Nat.le_of_ble_eq_true rfl, Nat.le_of_ble_eq_true rfl⟩ (q_rc4 hV hL_c8 hK_c8) rfl hl.1 rfl (q_sm (q_1c rfl q_1n) (Nat.le_of_ble_eq_true rfl)) dX4_joinAll_21 ⟨by simp only [List.length_cons] at hcc; show _ ≤ kb; omega, by simp only [List.length_cons] at hss; show _ ≤ 4 * kb; omega⟩) (fun i21 S21 H locs hp21 hV => ?_)
          obtain ⟨hp21, ⟨ns21, rows21, hC21⟩, hf21⟩ := hp21
          obtain ⟨hL_y, hK_y, -, -, -, hch21, -, -, -⟩ := q_C_at hC21
          rw [q_sw_1] at hL_y hK_y hch21
          refine lv_iadd C.1 C.2.1 dX4_joinAll_24 ?_
          refine q_istore_n (x := ac + i21) (lv' := [(1, .int (ac + i21)), (2, va_rf (some y.1)), (0, va_rf (some c9))]) C dX4_joinAll_25 rfl hl (by decide) (q_k0 (q_kN 0 rfl (by decide) (by decide) (q_kC 2 rfl (by decide) (q_cat _) q_kz))) (fun ls hl => ?_)
          refine q_aload_n (r := some y.1) C dX4_joinAll_26 rfl (lv_at hl 1 rfl) ?_
          refine g_Piece_behind C hV hL_y hK_y (Or.inr ⟨_, wd_131⟩) dX4_joinAll_27 ?_
          refine q_nr (fun r27 h27 => ?_)
          refine q_astore_n (r := r27) (lv' := [(2, va_rf (r27)), (1, .int (ac + i21)), (0, va_rf (some c9))]) C dX4_joinAll_30 rfl hl (by decide) (q_k0 (q_kC 0 rfl (by decide) rfl (q_kN 2 rfl (by decide) (by decide) q_kz))) (fun ls hl => ?_)
          refine lv_goto (tgt := 7) C.1 C.2.1 dX4_joinAll_31 (by decide) ?_
          subst h27
          exact ih _ _ (k9 + (q_tk R2).length) fu2 (cc + 1) (ss + 4) (q_st tm9 (q_tk R2)) (D ++ [q_sw tm9 y (q_tk R2)]) (q_dr9 R2) ns21 rows21 S21 H locs ls (by omega) hV hl (by simpa using hC21) hch21 (by omega) (by rw [hac, hp21]; exact nI_add _ _) (by simp only [List.length_cons] at hcc; omega) (by simp only [List.length_cons] at hss; omega) (q_fr_tr hfS hf21) (by rw [q_st]; simp only [List.length_cons] at htm9; split <;> omega) (by rw [← hVF, hja]; simp [q_sw_vl, q_st_vl]) (by rw [← hTF, hja, q_st_vl]) (by rw [← hGF, hja, q_st_vl]; simp only []; omega)
  refine lv_iconst (v := 0) C.1 C.2.1 dX4_joinAll_0 (by decide) ?_
  refine q_istore_n (x := 0) (lv' := [(1, .int (0)), (0, va_rf (some c9))]) C dX4_joinAll_1 rfl hl (by decide) (q_k0 (q_kC 0 rfl (by decide) (q_cat _) q_kz)) (fun ls hl => ?_)
  refine q_aload_n (r := some c9) C dX4_joinAll_2 rfl (lv_at hl 1 rfl) ?_
  refine g_Shelf_lowest C hV hL_c9 hK_c9 (Or.inl wd_178) dX4_joinAll_3 ?_
  refine q_nr (fun r3 h3 => ?_)
  refine q_astore_n (r := r3) (lv' := [(2, va_rf (r3)), (1, .int (0)), (0, va_rf (some c9))]) C dX4_joinAll_6 rfl hl (by decide) (q_k0 (q_kC 0 rfl (by decide) rfl (q_kN 1 rfl (by decide) (by decide) q_kz))) (fun ls hl => ?_)
  exact loop (P.length + 1) r3 0 0 P.length 0 0 tm [] P ns rows S s.heap [] ls (Nat.lt_succ_self _) hV hl hC (by rw [h3]; exact hC.1.2.2.2.1) (Nat.le_refl _) nI_0.symm (by omega) (by omega) q_fr_rf htm (List.nil_append _) rfl (Nat.zero_add _)
theorem c_Shelf_joinAll (l : Launch) (E : qE) (S : qS) (c9 h ar t n9 f9 tm kb : Nat) (P : List q_X) (ns : List Nat) (rows : Nat → List Nat) (hC : q_C S c9 n9 f9 tm P h ar t ns rows) (hkb : P.length ≤ kb) (htm : tm + P.length < 2 ^ 40) : q_Mi l yX4_joinAll cX4_joinAll 3 .int { frames := 5, cells := kb, slots := (4 * kb), locals := 99 } E [.ref c9] S (fun r S1 => r = nI (v_ja P.length (q_vl P) tm).2.2 ∧ ∃ P1, q_vl P1 = (v_ja P.length (q_vl P) tm).1 ∧ q_CC S1 c9 n9 f9 (v_ja P.length (q_vl P) tm).2.1 P1 h ar t ∧ q_fk S S1) kb (4 * kb) := c0_Shelf_joinAll l E S c9 h ar t n9 f9 tm kb P ns rows hC hkb htm _ (fun _ _ h => h)
end
section
/-! THROWING: the words of the two exceptions, the row of a throw, contracts of methods that may throw -/
abbrev q_IA : String := "java/lang/IllegalArgumentException"
abbrev q_NE : String := "java/util/NoSuchElementException"
abbrev q_RE : String := "java/lang/RuntimeException"
abbrev q_up : List String := ["java/lang/RuntimeException", "java/lang/Exception"]
theorem q_all {L : List Cond} (h : L.all (fun w => lw_tbl.any (fun v => decide (v = w)) && q_gw w) = true) : ∀ w ∈ L, w ∈ q_T := by
  intro w hw
  have h1 := List.all_eq_true.mp h w hw
  rw [Bool.and_eq_true] at h1
  obtain ⟨v, hv, e⟩ := List.any_eq_true.mp h1.1
  exact List.mem_filter.mpr ⟨of_decide_eq_true e ▸ hv, h1.2⟩
theorem q_atI : (vx_atS RX4 24 q_IA q_up).all (fun w => lw_tbl.any (fun v => decide (v = w)) && q_gw w) = true := by decide +kernel
/-! the first constructor calls the next by a link of its own number (NoSuchElementException(String): 13, not 7) -/
def vy_b : ByteArray := ⟨#[0x2a, 0x2b, 0xb7, 0x00, 0x0d, 0xb1]⟩
theorem vy_b0 : decode vy_b 0 = .ok (.aload_n 0, 1) := by decide +kernel
theorem vy_b1 : decode vy_b 1 = .ok (.aload_n 1, 1) := by decide +kernel
theorem vy_b2 : decode vy_b 2 = .ok (.invokespecial 13, 3) := by decide +kernel
theorem vy_b5 : decode vy_b 5 = .ok (.return_, 1) := by decide +kernel
def vy_tl (own : String) (ic : Nat) (X : String) : List Cond := [.methodLink own ic (Bundle.initS X), .instantiable X 6, .selects X Bundle.tFill0 Bundle.tFill0, .selects X Bundle.tFill Bundle.tFill, .lays X Bundle.tN "cause" "Ljava/lang/Throwable;", .lays X Bundle.tN "stackTrace" Bundle.steD, .lays X Bundle.tN "suppressedExceptions" Bundle.listD, .lays X Bundle.tN "detailMessage" "Ljava/lang/String;", .fieldLink Bundle.tN 198 Bundle.tN "backtrace" "Ljava/lang/Object;", .lays Bundle.tN Bundle.tN "backtrace" "Ljava/lang/Object;", .lays X Bundle.tN "backtrace" "Ljava/lang/Object;"]
def vy_at (own : String) (ic : Nat) (X Y : String) (names : List String) : List Cond := Bundle.throwableAtoms ++ Bundle.throwableSAtoms ++ (Bundle.passSAtoms X Y 13 vy_b ++ Bundle.chainSAtoms Y names) ++ (vy_tl own ic X ++ [.isRef (.static Bundle.tN "UNASSIGNED_STACK" Bundle.steD), .isRef (.static Bundle.tN "SUPPRESSED_SENTINEL" Bundle.listD)])
theorem q_atN : ((vy_at RX4 68 q_NE q_RE ["java/lang/Exception"]).filter vx_no).all (fun w => lw_tbl.any (fun v => decide (v = w)) && q_gw w) = true := by decide +kernel
section VY
variable {p : Program} {l : Launch} {e : Env} {R : Room} {s : State} {m₀ : MethodId} {args : Array Value} {below : List Frame} {meth : Method} {c : Code} {W : State} {locs : List Loc} {cells slots : Nat}
set_option maxHeartbeats 1000000 in
theorem vy_ctorS (X : Stand p l e R s m₀ args below meth c W locs cells slots) (hexec : p.tables.exec = Jvm.exec) (htr : e.platform.stackTraces = false) {own cls Y : String} {names : List String} {ic : Nat}
    (hown : s.vm.findClass own = some m₀.cls) (hcls : Bundle.fit cls = true) (hY : Bundle.fit Y = true) (hnames : ∀ n ∈ names, Bundle.fit n = true) (h : ∀ a ∈ vy_at own ic cls Y names, a.before args s = true)
    (hlocs : ∀ x ∈ locs, ∀ cell, s.heap[x.base]? = some cell → cell.vm.isStatics = false)
    {a : Addr} {cX : ClassId} {kX : Class} (hfX : s.vm.findClass cls = some cX) (hkX : s.vm.classes[cX]? = some kX) (hcell : W.heap[a]? = some (freshCell cX kX)) (hnew : s.heap.size ≤ a) {msg : Value} (hmsg : msg.isRef = true)
    {g : JFrame} (hg : g.method = m₀) (hsize : g.locals.size = c.maxLocals) (hlocked : g.locked = none) (hentered : g.entered = []) {rest : List Value} (hstack : g.stack = msg :: .ref a :: .ref a :: rest)
    (hd6 : decode c.code g.pc = .ok (.invokespecial ic, 3)) (hd9 : decode c.code (g.pc + 3) = .ok (.athrow, 1)) (hout : ∀ x ∈ c.exceptionTable.toList, covers x (g.pc + 3) = false)
    (hRframes : names.length + 4 < R.frames) (hRlocals : 2 * g.monitorRoom + ((Value.ref a :: rest).map fun v => v.category).sum + (13 * (names.length + 2) + 42) ≤ R.locals) (hlocks : meth.locks = false) :
    ∃ U : State, Steps p.tables e below (W.setTop g) U ∧ U.status = .running ∧ Ended U below (.threw a) ∧ s.WarmedH U.vm ∧ s.sameButNew ({ U with vm := s.vm } : State) locs cells slots ∧ ∃ ce, U.heap[a]? = some ce ∧ ce.vm = .none ∧ s.vm.findClass cls = some ce.cls := by
  have ho : e.platform.frameOwnsMonitors = true := by rw [X.admits.platform]
  have hfi : e.platform.finalization = false := by rw [X.admits.platform]
  have hpl : e.platform.magicAccessors = ({} : Platform).magicAccessors := by rw [X.admits.platform]
  have hT1 : ∀ w ∈ vy_tl own ic cls, w.before args s = true := fun w hw => h w (by simp [vy_at, hw])
  obtain ⟨T, Z0, L, -, Y0⟩ := ThrowableC.of_atoms (args := args) ho hfi hpl (fun x hx => h x (by simp [vy_at, hx]))
  obtain ⟨Z, M, LZ, LM, hnZ⟩ := Init0T.ofS_atoms (args := args) hpl L Y0 (fun x hx => h x (by simp [vy_at, hx]))
  obtain ⟨P1, L1, hP1m, hP1s⟩ := PassC.ofS_atoms (args := args) hpl (Bundle.fit_spec hcls).1 (Bundle.fit_spec hY).2 vy_b0 vy_b1 vy_b2 vy_b5 (fun x hx => h x (by simp [vy_at, hx]))
  obtain ⟨P2, Ps, hlen, L2, hL, hP2m, hlk1, hlk⟩ := Bundle.chainS (args := args) hpl hnZ names Y hY hnames (fun x hx => h x (by simp [vy_at, hx]))
  have hsup : P1.sup = P2.m := Option.some.inj (hP1s.symm.trans hP2m)
  have hfound : s.vm.findClass cls = some P1.m.cls := findClass_of_methodNamed hP1m
  cases Option.some.inj (hfX.symm.trans hfound)
  obtain ⟨c1, kX', hc1, hk, hord, -, -, -⟩ := Cond.instantiable_spec (hT1 (.instantiable cls 6) (by simp [vy_tl]))
  cases Option.some.inj (hc1.symm.trans hfound)
  cases Option.some.inj (hkX.symm.trans hk)
  have hsel : ∀ (y : MethodName) (f : MethodId), y.name ≠ "<clinit>" → s.methodNamed? y = some f → (Cond.selects cls y y).before args s = true → s.methodFound? y.cls y.name y.desc = some f → selectMethod e.platform s.vm P1.m.cls f = .method f := by
    intro y f _ hn hw hfd
    obtain ⟨c2, r2, m2, q1, q2, q3, q4, -⟩ := Cond.selects_spec hw
    cases Option.some.inj (q1.symm.trans hfound)
    cases Option.some.inj (q2.symm.trans hfd)
    cases Option.some.inj (q3.symm.trans hn)
    rw [Launch.admits_selectMethod X.admits]; exact q4
  have hsel0 := hsel Bundle.tFill0 T.fill0 (by decide) Y0.fill0 (hT1 _ (by simp [vy_tl])) (State.methodFound?_of_named Y0.fill0 (by decide))
  have hselF := hsel Bundle.tFill T.fill (by decide) Y0.fill (hT1 _ (by simp [vy_tl])) (State.methodFound?_of_named Y0.fill (by decide))
  obtain ⟨cellS0, hcS0, hiss⟩ := Y0.statics
  obtain ⟨u0, hu0⟩ := Cond.staticRefV Y0.unassigned L.unassignedStatic L.statics hcS0 hiss (h (.isRef (.static Bundle.tN "UNASSIGNED_STACK" Bundle.steD)) (by simp [vy_at]))
  obtain ⟨sen, hsen⟩ := Cond.staticRefV Y0.sentinel L.sentinelStatic L.statics hcS0 hiss (h (.isRef (.static Bundle.tN "SUPPRESSED_SENTINEL" Bundle.listD)) (by simp [vy_at]))
  obtain ⟨ci198, i198, fB, hk198, hg198, ha198, hsB, -, hnB, htB, hffB⟩ := Cond.ownField (t := .object "java/lang/Object") Y0.found L.cls (by decide +kernel) (hT1 (.fieldLink Bundle.tN 198 Bundle.tN "backtrace" "Ljava/lang/Object;") (by simp [vy_tl])) (hT1 (.lays Bundle.tN Bundle.tN "backtrace" "Ljava/lang/Object;") (by simp [vy_tl])) e.platform hpl
  obtain ⟨cellS, hcS', heS, -, hkeep⟩ := X.same.2.2.2.2.2 T.aS cellS0 hcS0
  have hcellS : W.heap[T.aS]? = some cellS := hcS'
  have hout' : ∀ i, (⟨T.aS, i⟩ : Loc) ∉ locs := fun i hmem => by
    have h9 := hlocs _ hmem cellS0 hcS0
    rw [hiss] at h9; cases h9
  have hknS : cellS.vm ≠ .unknown := by
    rw [heS]; intro hu
    rw [show cellS0.vm = .unknown from hu] at hiss
    cases hiss
  have hneS : T.aS ≠ a := Nat.ne_of_lt (Nat.lt_of_lt_of_le (Array.getElem?_eq_some_iff.mp hcS0).1 hnew)
  obtain ⟨iM, hffM⟩ := Y0.msg
  obtain ⟨tyC, dC, hdC, hdnC⟩ := Cond.laysAt hfound hk Y0.cause (hT1 (.lays cls Bundle.tN "cause" "Ljava/lang/Throwable;") (by simp [vy_tl]))
  obtain ⟨tyS, dS, hdS, hdnS⟩ := Cond.laysAt hfound hk Y0.stack (hT1 (.lays cls Bundle.tN "stackTrace" Bundle.steD) (by simp [vy_tl]))
  obtain ⟨tyP, dP, hdP, hdnP⟩ := Cond.laysAt hfound hk Y0.supp (hT1 (.lays cls Bundle.tN "suppressedExceptions" Bundle.listD) (by simp [vy_tl]))
  obtain ⟨tyM, dM, hdM, hdnM⟩ := Cond.laysAt hfound hk hffM (hT1 (.lays cls Bundle.tN "detailMessage" "Ljava/lang/String;") (by simp [vy_tl]))
  obtain ⟨tyB, dB, hdB, hdnB⟩ := Cond.laysAt hfound hk hffB (hT1 (.lays cls Bundle.tN "backtrace" "Ljava/lang/Object;") (by simp [vy_tl]))
  have bC := Cond.laysApart hdB hdC hdnB hdnC (by rw [hnB, Y0.causeName]; decide)
  have bS := Cond.laysApart hdB hdS hdnB hdnS (by rw [hnB, Y0.stackName]; decide)
  have bP := Cond.laysApart hdB hdP hdnB hdnP (by rw [hnB, Y0.suppName]; decide)
  have hskip : SkipFacts T e.platform s (fun u => u) u0 ((preparedCellV T.toThrowableT (freshCell P1.m.cls kX) a u0 sen).withEntry W.cur) :=
    ⟨{ ci198 := ci198, i198 := i198, fBack := fB }, ⟨hk198, hg198, ha198, hsB⟩, by
      have h9 := fresh_default (c := P1.m.cls) tyB
      rw [htB] at h9
      simpa [preparedCellV, Cell.setSlot, Cell.withEntry, Array.getElem?_setIfInBounds, bC, bS, bP, bC.symm, bS.symm, bP.symm, defaultValue] using h9, fun _ _ => rfl⟩
  obtain ⟨tm, methC, cdC, kC, vm₁, hnC, -, -, -, -, -, -, -, hW₁, st1⟩ := Steps.initColdS (tb := p.tables) (e := e) (below := below) (s := s) (U := W) X.here hexec X.warmed hpl hown (t := Bundle.initS cls) rfl rfl (Bundle.fit_spec hcls).2
    (hT1 (.methodLink own ic (Bundle.initS cls)) (by simp [vy_tl])) (h (.instanceMethod (Bundle.initS cls)) (by simp [vy_at, Bundle.passSAtoms])) (bytes := vy_b) (maxL := 2) (h (.code (Bundle.initS cls) vy_b 2 none) (by simp [vy_at, Bundle.passSAtoms]))
    (f := g) hg (a := a) (msg := msg) (rest := .ref a :: rest) hstack hd6
  cases Option.some.inj (hnC.symm.trans hP1m)
  have X₁ := X.noted hW₁
  obtain ⟨vm₂, X₂, st2⟩ := X₁.ctorMessageOffV hexec (g := { g with stack := .ref a :: rest }) hg hsize T L Z LZ M LM (P1 :: P2 :: Ps)
    (fun P hP => by
      rcases List.mem_cons.mp hP with rfl | hP
      · exact L1
      · rcases List.mem_cons.mp hP with rfl | hP
        · exact L2
        · exact hL P hP) ⟨hsup, hlk1, hlk⟩ (u0 := u0) (sen := sen) (self := a) hmsg (cell := freshCell P1.m.cls kX) (cellS := cellS)
    hcell (fun _ => by simp) (by simp) rfl rfl hsel0 hselF hcellS hneS hknS (by rw [hkeep _ (hout' _)]; exact hu0) (by rw [hkeep _ (hout' _)]; exact hsen)
    (Takes.of_laid hk hord tyC (by rw [Y0.causeType]; rfl)) (Takes.of_laid hk hord tyS (by rw [Y0.stackType]; exact fits_refV_array _ u0)) (Takes.of_laid hk hord tyP (by rw [Y0.suppType]; exact fits_refV_object _ sen))
    (Takes.of_laid hk hord tyM (by rw [Y0.msgType]; exact fits_refV_object _ ⟨msg, hmsg⟩)) Y0.objLocals hskip htr [] hd6
    (by simp only [List.length_cons, hlen]; omega) (by simp only [List.length_cons, hlen]; exact hRlocals)
  obtain ⟨hwalk, hrun, hended, hWU, hsame⟩ := X₂.athrowLeaves hexec (g := { g with stack := .ref a :: rest, pc := g.pc + 3 }) hg hlocked hentered hout (a := a) (rest := rest) rfl hd9 hlocks
  have hlt : a < ((W.setVm vm₁).setVm vm₂).heap.size := (Array.getElem?_eq_some_iff.mp hcell).1
  have hU := heapAt_setCell_self (s := (W.setVm vm₁).setVm vm₂) (plainBareV T.toThrowableT (freshCell P1.m.cls kX) a u0 sen msg) hlt
  refine ⟨_, st1 _ (fun acts => ?_), hrun, hended, hWU, hsame.weaken (fun y hy hlt' => ?_) (Nat.le_refl _) (Nat.le_refl _), _, hU, rfl, hfound⟩
  · rw [doInvoke_state]
    exact st2 _ hwalk
  · rcases List.mem_append.mp hy with h1 | h1
    · exact h1
    · exfalso
      have hb : y.base = a := by
        simp only [List.mem_cons, List.not_mem_nil, or_false] at h1
        rcases h1 with rfl | rfl | rfl | rfl | rfl <;> rfl
      rw [hb] at hlt'
      exact Nat.not_lt.mpr hnew hlt'
end VY
section VY2
variable {p : Program} {l : Launch} {e : Env} {R : Room} {s : State} {m : MethodId} {args : Array Value} {below : List Frame} {meth : Method} {c : Code} {H : Heap} {locs : List Loc} {cells slots : Nat} {free : Addr → Prop} {ls : Array Slot} {rest : List Value} {Qc : Array Value → State → Outcome → State → Prop} {XC : String → State → State → Prop}
theorem vy_throwS {cc : ByteArray} {pc : Nat} (hexec : p.tables.exec = Jvm.exec) (hb : c.code = cc) (hl : l.stackTraces = false) {own cls Y9 text : String} {names : List String} {ik is ic mc ms sa : Nat} {A : Nat → Prop}
    (hown : s.vm.findClass own = some m.cls) (hcls : Bundle.fit cls = true) (hY9 : Bundle.fit Y9 = true) (hnames : ∀ n ∈ names, Bundle.fit n = true)
    (hk : (Cond.classLink own ik cls).before args s = true) (hini : (Cond.initialized cls).before args s = true) (hstr : vk_R own is text sa s) (hat : ∀ w ∈ (vy_at own ic cls Y9 names).filter vx_no, w.before args s = true)
    (hgood : ∀ w ∈ Cond.classLink own ik cls :: Cond.initialized cls :: (vy_at own ic cls Y9 names).filter vx_no, vx_ot w = true)
    (hU : vx_Zq Bundle.tN "UNASSIGNED_STACK" Bundle.steD A s s.heap) (hN : vx_Zq Bundle.tN "SUPPRESSED_SENTINEL" Bundle.listD A s s.heap) (hS : va_S A s.heap H locs) (hsize : ls.size = c.maxLocals)
    (d0 : decode cc pc = .ok (.new ik, 3)) (d3 : decode cc (pc + 3) = .ok (.dup, 1)) (d4 : decode cc (pc + 4) = .ok (.ldc is, 2)) (d6 : decode cc (pc + 6) = .ok (.invokespecial ic, 3)) (d9 : decode cc (pc + 9) = .ok (.athrow, 1))
    (hout : ∀ x ∈ c.exceptionTable.toList, covers x (pc + 9) = false)
    (hRframes : names.length + 4 < R.frames) (hRlocals : (rest.map fun v => v.category).sum + (13 * (names.length + 2) + 43) ≤ R.locals) (hRcells : cells + 1 ≤ R.cells) (hRslots : slots + 6 ≤ R.slots) (hlocks : meth.locks = false)
    (hx : ∀ t : State, s.vm.Alike t.vm → H.size ≤ t.heap.size → (∀ q : Nat, q < H.size → t.heap[q]? = H[q]?) → XC cls s t)
    (hf : ∀ z ∈ locs, free z.base) (hc : cells + 1 ≤ mc) (hs : slots + 6 ≤ ms) :
    W p l e R s m args below meth c H locs cells slots (vx_MQ below Qc XC args s mc ms free) (F0 m pc ls rest) := by
  intro T hT X
  have htr : e.platform.stackTraces = false := (show e.platform.stackTraces = l.stackTraces by rw [X.admits.platform]).trans hl
  have Y := vx_rebase X (R' := { frames := R.frames, locals := R.locals, cells := 1, slots := 6 }) (Nat.le_refl _) (Nat.le_refl _) hRcells hRslots
  obtain ⟨s', hA⟩ : ∃ z, z = (T.setVm s.vm).setFrames (.invoking m args :: below) := ⟨_, rfl⟩
  rw [← hA] at Y
  have hvm : s'.vm = s.vm := by rw [hA]; rfl
  have hhp : s'.heap = H := by rw [hA]; exact hT
  have hW0 : s.WarmedH s'.vm := by rw [hvm]; exact State.WarmedH.refl s
  have hat' : ∀ w ∈ (vy_at own ic cls Y9 names).filter vx_no, w.before args s' = true := fun w hw => vx_ot_at hW0 hvm.symm (hgood w (List.mem_cons_of_mem _ (List.mem_cons_of_mem _ hw))) (hat w hw)
  have hk' : (Cond.classLink own ik cls).before args s' = true := vx_ot_at hW0 hvm.symm (hgood _ List.mem_cons_self) hk
  have hini' : (Cond.initialized cls).before args s' = true := vx_ot_at hW0 hvm.symm (hgood _ (List.mem_cons_of_mem _ List.mem_cons_self)) hini
  have hU' : vx_Zq Bundle.tN "UNASSIGNED_STACK" Bundle.steD A s' s'.heap := by rw [hhp]; exact vx_Zq.moved hW0.alike (hU.kept hS.2.1)
  have hN' : vx_Zq Bundle.tN "SUPPRESSED_SENTINEL" Bundle.listD A s' s'.heap := by rw [hhp]; exact vx_Zq.moved hW0.alike (hN.kept hS.2.1)
  have h : ∀ w ∈ vy_at own ic cls Y9 names, w.before args s' = true := vx_own hat' (vx_isRefq hU'.1) (vx_isRefq hN'.1) hU'.2.word hN'.2.word
  have hown' : s'.vm.findClass own = some m.cls := by rw [hvm]; exact hown
  have hins : (Cond.instantiable cls 6).before args s' = true := h _ (by simp [vy_at, vy_tl])
  obtain ⟨vm₁, cX, kX, hfX, hkX, -, -, X₁, st1⟩ := Y.newCold hexec (own := own) (C := cls) (index := ik) (n := 6) hown' hk' hins hini'
    (g := F0 m pc ls rest) rfl (by rw [hb]; exact d0) (Nat.le_refl _) (Nat.le_refl _)
  generalize hT1 : (T.setVm vm₁).pushCell { cls := cX, slots := kX.instanceTypes.map defaultValue, vm := .none } = T1 at X₁ st1
  have hcat : (Value.ref T.heap.size).category = 1 := rfl
  have hcellA : T1.heap[T.heap.size]? = some (freshCell cX kX) := by rw [← hT1]; exact State.heap_pushCell_size _ _
  have d3' : decode c.code (pc + 3) = .ok (.dup, 1) := by rw [hb]; exact d3
  have d4' : decode c.code (pc + 4) = .ok (.ldc is, 2) := by rw [hb]; exact d4
  have hstr' : vk_R own is text sa s' := vk_R.warm hW0 hstr
  obtain ⟨U, hsteps, hrun, hend, hW, hsame, ce, hce, hOv, hOc⟩ := vy_ctorS X₁ hexec htr (own := own) (cls := cls) (names := names) (ic := ic) hown' hcls hY9 hnames h (fun x hx => nomatch hx) hfX hkX hcellA (by rw [hhp, hT]; exact Nat.le_refl _) (msg := .ref sa) rfl
    (g := { method := m, pc := pc + 6, locals := ls, stack := .ref sa :: .ref T.heap.size :: .ref T.heap.size :: rest, locked := none }) rfl hsize rfl rfl (rest := rest) rfl
    (by rw [hb]; exact d6) (by rw [hb]; exact d9) hout hRframes (by simp only [List.map_cons, List.sum_cons, hcat]; omega) hlocks
  obtain ⟨f1, f2⟩ := vx_frame hsame
  rw [hhp] at f1 f2
  have hWs : s.WarmedH U.vm := State.WarmedH.trans hW0 hW
  have hcl : s.vm.findClass cls = some ce.cls := by
    have h9 := hOc
    rw [hvm] at h9
    exact h9
  have hall : s.sameButNew ({ U with vm := s.vm } : State) locs mc ms := by
    subst hA
    obtain ⟨e1, e2⟩ := hsame
    rw [State.setFrames_setFrames] at e1
    have h2 : (T.setVm s.vm).sameButNew ({ U with vm := s.vm } : State) [] (0 + 1) (0 + 6) := ⟨e1, e2⟩
    have h3 := X.same.trans h2
    rw [List.append_nil] at h3
    exact h3.mono hc hs
  refine ⟨U, ?_, .threw T.heap.size, hrun, hend, Or.inr ⟨T.heap.size, rfl, cls, ce, locs, hx U hWs.alike f1 (fun q hq => f2 q hq (fun z hz => nomatch hz)), hce, hOv, hcl, hWs, hall, hf⟩⟩
  refine st1 _ ?_
  show Steps p.tables e below (T1.setTop { method := m, pc := pc + 3, locals := ls, stack := .ref T.heap.size :: rest, locked := none }) _
  jvm_step X₁.here [X₁.here.top, hexec, d3', Value.category]
  exact X₁.ldcString hexec (own := own) (text := text) (index := is) (a := sa) hown' hstr'.1 hstr'.2
    (g := { method := m, pc := pc + 4, locals := ls, stack := .ref T.heap.size :: .ref T.heap.size :: rest, locked := none }) rfl d4' _ hsteps
end VY2
end
section
/-! CONTRACTS of methods that may throw: xn the exception's class, px what holds where it is thrown -/
abbrev q_XC (E : qE) (xn : String) (px : qS → Prop) : String → State → State → Prop := vx_X px (fun En S1 t => En = xn ∧ q_B E S1 t) E.A
abbrev x_Mi (l : Launch) (y : MethodName) (cc : ByteArray) (n : Nat) (rm : Room) (E : qE) (av : List Value) (S : qS) (post : Int32 → qS → Prop) (xn : String) (px : qS → Prop) (mc ms : Nat) : Prop := vx_Met l y [.code y cc n (some .int)] rm (va_Pc av (q_I E S)) (va_Qi post (q_B E) E.A) (q_XC E xn px) mc ms E.A
abbrev x_Mv (l : Launch) (y : MethodName) (cc : ByteArray) (n : Nat) (rm : Room) (E : qE) (av : List Value) (S : qS) (post : qS → Prop) (xn : String) (px : qS → Prop) (mc ms : Nat) : Prop := vx_Met l y [.code y cc n none] rm (va_Pc av (q_I E S)) (va_Qv post (q_B E) E.A) (q_XC E xn px) mc ms E.A
theorem x_ofW1 {l : Launch} {y : MethodName} {cc : ByteArray} {n mc ms : Nat} {ret : Option FieldType} {rm : Room} {E : qE} {av : List Value} {S : qS} {Qc : Array Value → State → Outcome → State → Prop} {XC : String → State → State → Prop} (hy : plainName y.cls = true) (h1 : q_1 av) (hn : av.length ≤ n)
    (body : ∀ (p : Program) (e : Env) (s : State) (m : MethodId) (below : List Frame) (meth : Method) (c : Code), CallFix p m c cc n s av.toArray q_T y.cls → q_V E s S s.heap [] → meth.sig.returnType = ret → meth.locks = false → meth.name = y.name → (∀ x ∈ c.exceptionTable.toList, False) → ∀ ls : Array Slot, lv_has ls n (q_args 0 av) →
      W p l e rm s m av.toArray below meth c s.heap [] 0 0 (vx_MQ below Qc XC av.toArray s mc ms E.A) (F0 m 0 ls [])) : vx_Met l y [.code y cc n ret] rm (va_Pc av (q_I E S)) Qc XC mc ms E.A := by
  refine vx_ofW (cc := cc) (maxL := n) (ret := ret) (ws' := []) hy rfl ?_
  intro p e s m args below meth c s₁ B hml hnt hv
  obtain ⟨rfl, hK, hZ, hP, hD, hA⟩ := hv
  rw [lg_entry_eq]
  have hl := lv_entry av (show (lg_sl av).length ≤ n by rw [q_1len av h1]; exact hn)
  rw [q_1args av 0 h1] at hl
  exact body p e s m below meth c ⟨B.exec, B.bytes, hml, findClass_of_methodNamed B.named, fun w hw => va_Nw.use (q_on hw) (hK.2.1 w hw)⟩ ⟨hK, hZ, hP, hD, va_S.rf, hA⟩ B.returns B.notSynchronized (name_of_methodNamed B.named B.method).1 hnt _ hl
section XR
variable {p : Program} {l : Launch} {e : Env} {R : Room} {s : State} {m : MethodId} {args : Array Value} {below : List Frame} {meth : Method} {c : Code} {H : Heap} {locs : List Loc} {cells slots : Nat} {Q : State → Prop} {E : qE} {S : qS} {cc : ByteArray} {nL pc : Nat} {ls : Array Slot} {rest st0 : List Value} {own : String}
variable {Qc : Array Value → State → Outcome → State → Prop} {xn : String} {px : qS → Prop} {mc ms : Nat}
/-- the heap may grow: the world stays -/
theorem q_B_grow (hV : q_V E s S H locs) {t : State} (h1 : H.size ≤ t.heap.size) (h2 : ∀ q : Nat, q < H.size → t.heap[q]? = H[q]?) : q_B E S t ∧ va_F E.A s t := by
  obtain ⟨hK, hZ, hP, hD, hS, hA⟩ := hV
  refine ⟨⟨hP.kept (fun k q hk => h2 q.1 ?_), hD⟩, Nat.le_trans hS.1 h1, fun q l1 l2 => (h2 q (Nat.lt_of_lt_of_le l1 hS.1)).trans (hS.2.1 q l1 l2)⟩
  exact (hP k q hk).lt
theorem q_thI (C : CallFix p m c cc nL s args q_T RX4) (hV : q_V E s S H locs) (hl9 : l.stackTraces = false) (hnt : ∀ x ∈ c.exceptionTable.toList, False) (hlk : meth.locks = false) (hsz : ls.size = nL) {is : Nat} {txt : String} (hstr : (is, txt) ∈ q_strs)
    (d0 : decode cc pc = .ok (.new 20, 3)) (d3 : decode cc (pc + 3) = .ok (.dup, 1)) (d4 : decode cc (pc + 4) = .ok (.ldc is, 2)) (d6 : decode cc (pc + 6) = .ok (.invokespecial 24, 3)) (d9 : decode cc (pc + 9) = .ok (.athrow, 1))
    (hRf : 5 < R.frames) (hRl : (rest.map fun v => v.category).sum + 82 ≤ R.locals) (hRc : cells + 1 ≤ R.cells) (hRs : slots + 6 ≤ R.slots) (hc : cells + 1 ≤ mc) (hs : slots + 6 ≤ ms) (hpx : px S) :
    W p l e R s m args below meth c H locs cells slots (vx_MQ below Qc (q_XC E q_IA px) args s mc ms E.A) (F0 m pc ls rest) := by
  obtain ⟨sa, hsa⟩ := hV.1.2.2.2.1 _ hstr
  refine vx_throwS (text := txt) (names := q_up) (ik := 20) (is := is) (ic := 24) (sa := sa) (A := E.A) C.1 C.2.1 hl9 C.2.2.2.1 (by decide +kernel) (by decide +kernel) (C.2.2.2.2 _ wd_264) (C.2.2.2.2 _ wd_46) hsa (fun w hw => C.2.2.2.2 w (q_all q_atI w hw)) ?_ hV.2.1.1 hV.2.1.2 hV.2.2.2.2.1 (hsz.trans C.2.2.1.symm) d0 d3 d4 d6 d9 (fun x hx => (hnt x hx).elim) hRf hRl hRc hRs hlk
    (fun t _ h1 h2 => ⟨S, hpx, ⟨rfl, (q_B_grow hV h1 h2).1⟩, (q_B_grow hV h1 h2).2⟩) hV.2.2.2.2.1.2.2 hc hs
  intro w hw
  have : w ∈ q_T := by
    rcases List.mem_cons.mp hw with e1 | hw
    · rw [e1]; exact wd_264
    · rcases List.mem_cons.mp hw with e1 | hw
      · rw [e1]; exact wd_46
      · exact q_all q_atI w hw
  unfold vx_ot
  rw [q_on this]; rfl
theorem q_thN (C : CallFix p m c cc nL s args q_T RX4) (hV : q_V E s S H locs) (hl9 : l.stackTraces = false) (hnt : ∀ x ∈ c.exceptionTable.toList, False) (hlk : meth.locks = false) (hsz : ls.size = nL) {is : Nat} {txt : String} (hstr : (is, txt) ∈ q_strs)
    (d0 : decode cc pc = .ok (.new 64, 3)) (d3 : decode cc (pc + 3) = .ok (.dup, 1)) (d4 : decode cc (pc + 4) = .ok (.ldc is, 2)) (d6 : decode cc (pc + 6) = .ok (.invokespecial 68, 3)) (d9 : decode cc (pc + 9) = .ok (.athrow, 1))
    (hRf : 5 < R.frames) (hRl : (rest.map fun v => v.category).sum + 82 ≤ R.locals) (hRc : cells + 1 ≤ R.cells) (hRs : slots + 6 ≤ R.slots) (hc : cells + 1 ≤ mc) (hs : slots + 6 ≤ ms) (hpx : px S) :
    W p l e R s m args below meth c H locs cells slots (vx_MQ below Qc (q_XC E q_NE px) args s mc ms E.A) (F0 m pc ls rest) := by
  obtain ⟨sa, hsa⟩ := hV.1.2.2.2.1 _ hstr
  refine vy_throwS (text := txt) (Y9 := q_RE) (names := ["java/lang/Exception"]) (ik := 64) (is := is) (ic := 68) (sa := sa) (A := E.A) C.1 C.2.1 hl9 C.2.2.2.1 (by decide +kernel) (by decide +kernel) (by decide +kernel) (C.2.2.2.2 _ wd_361) (C.2.2.2.2 _ wd_48) hsa (fun w hw => C.2.2.2.2 w (q_all q_atN w hw)) ?_ hV.2.1.1 hV.2.1.2 hV.2.2.2.2.1 (hsz.trans C.2.2.1.symm) d0 d3 d4 d6 d9 (fun x hx => (hnt x hx).elim) hRf hRl hRc hRs hlk
    (fun t _ h1 h2 => ⟨S, hpx, ⟨rfl, (q_B_grow hV h1 h2).1⟩, (q_B_grow hV h1 h2).2⟩) hV.2.2.2.2.1.2.2 hc hs
  intro w hw
  have : w ∈ q_T := by
    rcases List.mem_cons.mp hw with e1 | hw
    · rw [e1]; exact wd_361
    · rcases List.mem_cons.mp hw with e1 | hw
      · rw [e1]; exact wd_48
      · exact q_all q_atN w hw
  unfold vx_ot
  rw [q_on this]; rfl
/-- a call that may throw: it returns, or it goes on with the exception over the frame -/
theorem q_xcv {post : qS → Prop} {av : Array Value} (hV : q_V E s S H locs) (hr : vx_Run p l e R s m args below meth c H locs cells slots mc ms (F0 m pc ls st0) rest (va_Qv post (q_B E) E.A av) (q_XC E xn px) E.A)
    (kx : ∀ (q9 : Addr) (ce : Cell) (S1 : qS) (H1 : Heap) (locs1 : List Loc), px S1 → q_V E s S1 H1 locs1 → H1[q9]? = some ce → ce.vm = .none → s.vm.findClass xn = some ce.cls → vx_W p l e R s m args below meth c H1 locs1 (cells + mc) (slots + ms) Q (F0 m pc ls rest) q9)
    (kk : ∀ (S1 : qS) (H1 : Heap) (locs1 : List Loc), post S1 → q_V E s S1 H1 locs1 → W p l e R s m args below meth c H1 locs1 (cells + mc) (slots + ms) Q (F0 m (pc + 3) ls rest)) : W p l e R s m args below meth c H locs cells slots Q (F0 m pc ls st0) := by
  obtain ⟨hK, hZ, hP, hD, hS, hA⟩ := hV
  exact vx_callv hr hS (fun _ _ h => h) (fun _ h => h) (fun _ _ h => h) (fun En ce q9 u t H1 locs1 ht _ hp hB _ _ hS1 h1 h2 h3 => by
    obtain ⟨rfl, hB⟩ := hB
    exact kx q9 ce u H1 locs1 hp ⟨hK, hZ, by rw [← ht]; exact hB.1, hB.2, hS1, hA⟩ h1 h2 h3) fun u t H1 locs1 ht _ hp hB _ _ hS1 => kk u H1 locs1 hp ⟨hK, hZ, by rw [← ht]; exact hB.1, hB.2, hS1, hA⟩
theorem q_xci {post : Int32 → qS → Prop} {av : Array Value} (hV : q_V E s S H locs) (hr : vx_Run p l e R s m args below meth c H locs cells slots mc ms (F0 m pc ls st0) rest (va_Qi post (q_B E) E.A av) (q_XC E xn px) E.A)
    (kx : ∀ (q9 : Addr) (ce : Cell) (S1 : qS) (H1 : Heap) (locs1 : List Loc), px S1 → q_V E s S1 H1 locs1 → H1[q9]? = some ce → ce.vm = .none → s.vm.findClass xn = some ce.cls → vx_W p l e R s m args below meth c H1 locs1 (cells + mc) (slots + ms) Q (F0 m pc ls rest) q9)
    (kk : ∀ (r : Int32) (S1 : qS) (H1 : Heap) (locs1 : List Loc), post r S1 → q_V E s S1 H1 locs1 → W p l e R s m args below meth c H1 locs1 (cells + mc) (slots + ms) Q (F0 m (pc + 3) ls (.int r :: rest))) : W p l e R s m args below meth c H locs cells slots Q (F0 m pc ls st0) := by
  obtain ⟨hK, hZ, hP, hD, hS, hA⟩ := hV
  exact vx_calli hr hS (fun _ _ h => h) (fun _ h => h) (fun _ _ h => h) (fun En ce q9 u t H1 locs1 ht _ hp hB _ _ hS1 h1 h2 h3 => by
    obtain ⟨rfl, hB⟩ := hB
    exact kx q9 ce u H1 locs1 hp ⟨hK, hZ, by rw [← ht]; exact hB.1, hB.2, hS1, hA⟩ h1 h2 h3) fun r u t H1 locs1 ht _ hp hB _ _ hS1 => kk r u H1 locs1 hp ⟨hK, hZ, by rw [← ht]; exact hB.1, hB.2, hS1, hA⟩
/-- what a called method threw goes on to the caller -/
theorem q_thru {ce : Cell} {q9 : Addr} (hV : q_V E s S H locs) (hnt : ∀ x ∈ c.exceptionTable.toList, False) (hlk : meth.locks = false) (h1 : H[q9]? = some ce) (h2 : ce.vm = .none) (h3 : s.vm.findClass xn = some ce.cls) (hc : cells ≤ mc) (hs : slots ≤ ms) (hpx : px S) :
    vx_W p l e R s m args below meth c H locs cells slots (vx_MQ below Qc (q_XC E xn px) args s mc ms E.A) (F0 m pc ls rest) q9 :=
  vx_out (fun x hx => (hnt x hx).elim) hlk h1 h2 h3 (fun t ht _ => ⟨S, hpx, ⟨rfl, by rw [q_B, ht]; exact ⟨hV.2.2.1, hV.2.2.2.1⟩⟩, hV.2.2.2.2.1.F ht⟩) hV.2.2.2.2.1.2.2 hc hs
variable {y : MethodName} {bytes : ByteArray} {maxL n index b : Nat} {ret : Option FieldType} {rm : Room} {As : List Value} {Cn : String} {XC : String → State → State → Prop}
theorem x_rV (C : CallFix p m c cc nL s args q_T own) (hV : q_V E s S H locs) (hM : vx_Met l y [.code y bytes maxL ret] rm (va_Pc (.ref b :: As) (q_I E S)) Qc XC mc ms E.A)
    (hco : Cond.code y bytes maxL ret ∈ q_T) (hl : Cond.methodLink own index y ∈ q_T) (hin : Cond.instanceMethod y ∈ q_T) (hse : Cond.selects Cn y y ∈ q_T) (hini : Cond.initialized y.cls ∈ q_T) (hy : q_ok y n) (hrm : rm.cells = mc ∧ rm.slots = ms ∧ rm.frames + 1 ≤ R.frames ∧ 8 + (maxL + 11) + rm.locals ≤ R.locals)
    (hrc : ∃ cell : Cell, H[b]? = some cell ∧ cell.vm.isStatics = false ∧ s.vm.findClass Cn = some cell.cls) (hn : As.length = n) (hsz : ls.size = nL) (hst : st0 = As.reverse ++ .ref b :: rest) (hW : (rest.map fun v => v.category).sum ≤ 8) (hdg : decode cc pc = .ok (.invokevirtual index, 3)) (hf : cells + mc ≤ R.cells ∧ slots + ms ≤ R.slots) :
    vx_Run p l e R s m args below meth c H locs cells slots mc ms (F0 m pc ls st0) rest (Qc (Value.ref b :: As).toArray) XC E.A := by
  have hts := C.2.2.2.2
  exact vx_runV (C := Cn) (As := As) (b := b) C hM ⟨⟨hrm.1, hrm.2.1, hrm.2.2.1, hrm.2.2.2, q_ws (hts _ hco), List.mem_singleton.mpr rfl, hts _ hco, hts _ hini, ⟨hy.1, hy.2.1⟩, q_sig hy, hts _ hl⟩, hts _ hin, hts _ hse⟩
    ⟨fun a U g mk q => ⟨q.1, q.2.blind g mk a⟩, hrc, fun U hU hW => ⟨rfl, hV.pre hU hW⟩⟩ rfl hn hsz hst (lv_room hW) hdg hf
theorem x_rS (C : CallFix p m c cc nL s args q_T own) (hV : q_V E s S H locs) (hM : vx_Met l y [.code y bytes maxL ret] rm (va_Pc As (q_I E S)) Qc XC mc ms E.A)
    (hco : Cond.code y bytes maxL ret ∈ q_T) (hl : Cond.methodLink own index y ∈ q_T) (hstt : Cond.static y ∈ q_T) (hini : Cond.initialized y.cls ∈ q_T) (hy : q_ok y n) (hrm : rm.cells = mc ∧ rm.slots = ms ∧ rm.frames + 1 ≤ R.frames ∧ 8 + (maxL + 11) + rm.locals ≤ R.locals)
    (hn : As.length = n) (hsz : ls.size = nL) (hst : st0 = As.reverse ++ rest) (hW : (rest.map fun v => v.category).sum ≤ 8) (hdg : decode cc pc = .ok (.invokestatic index, 3)) (hf : cells + mc ≤ R.cells ∧ slots + ms ≤ R.slots) :
    vx_Run p l e R s m args below meth c H locs cells slots mc ms (F0 m pc ls st0) rest (Qc As.toArray) XC E.A := by
  have hts := C.2.2.2.2
  exact vx_runS (As := As) C hM ⟨⟨hrm.1, hrm.2.1, hrm.2.2.1, hrm.2.2.2, q_ws (hts _ hco), List.mem_singleton.mpr rfl, hts _ hco, hts _ hini, ⟨hy.1, hy.2.1⟩, q_sig hy, hts _ hl⟩, hts _ hstt⟩
    ⟨fun a U g mk q => ⟨q.1, q.2.blind g mk a⟩, fun U hU hW => ⟨rfl, hV.pre hU hW⟩⟩ rfl hn hsz hst (lv_room hW) hdg hf
end XR
end
section
/-! the class's picture under changes that it doesn't speak of; the misses -/
theorem q_C_fr {S S1 : qS} {c n fails f1 tm : Nat} {P : List q_X} {h ar t : Nat} {ns : List Nat} {rows : Nat → List Nat} {cI cR cJ : Nat → Nat → Prop} (hC : q_C S c n fails tm P h ar t ns rows) (hf : q_fr S S1 cI cR cJ) (hI : ∀ j x, cI j x → j = 3 ∨ (j = 6 ∧ x = c) ∨ 7 ≤ j) (hR : ∀ j x, cR j x → 10 ≤ j) (hJ : ∀ j x, ¬ cJ j x) (h6 : S1.I 6 c = nI f1) : q_C S1 c n f1 tm P h ar t ns rows := by
  obtain ⟨⟨h1, h2, h3, h4, h5, h6', h7, h8⟩, c2, c3, c4, c5, c6, c7, c8, c9, c10⟩ := hC
  have nI : ∀ j, j ≤ 5 → j ≠ 3 → ∀ x, ¬ cI j x := fun j h9 h8 x z => by rcases hI j x z with e | e | e <;> omega
  have nR : ∀ j, j ≤ 9 → ∀ x, ¬ cR j x := fun j h9 x z => absurd (hR j x z) (by omega)
  have hmem : ∀ y ∈ P, y.1 ∈ S.L := fun y hy => by obtain ⟨a, ha⟩ := q_pcs_mem h5 hy; exact ha.1
  refine ⟨⟨(hf.1 c h1).1, (hf.1 c h1).2.1.trans h2, (hf.2.1 c h1 5 (nI 5 (by decide) (by decide) c)).trans h3, ?_, q_pcs_fr hf h5 (fun y _ => ⟨nI 0 (by decide) (by decide) _, nI 1 (by decide) (by decide) _, nI 2 (by decide) (by decide) _, hJ _ _⟩), h6', h7, h8⟩,
    (hf.2.2.1 c h1 8 (nR 8 (by decide) _)).trans c2, h6, q_sh_fr c4 hf (fun a => nI 4 (by decide) (by decide) a) (fun _ p _ => nI 1 (by decide) (by decide) p) (fun a => ⟨nR 5 (by decide) _, nR 6 (by decide) _, nR 3 (by decide) _, nR 4 (by decide) _, nR 7 (by decide) _, nR 2 (by decide) _⟩) (fun _ p _ => nR 1 (by decide) p), fun r hr => ?_, (hf.2.2.2 h c4.1.1 1 (hJ _ _)).trans c6, ⟨c7.1, fun z => ?_⟩, c8, c9, c10⟩
  · rw [hf.2.2.1 c h1 9 (nR 9 (by decide) _)]
    refine q_ch_congr (fun a ha => ?_) h4
    obtain ⟨y, hy, rfl⟩ := List.mem_map.mp ha
    exact hf.2.2.1 y.1 (hmem y hy) 0 (nR 0 (by decide) _)
  · have := c5 r hr
    have e9 : q_z S1 r = q_z S r := by show (S1.I 4 r).toInt = _; rw [hf.2.1 r (c4.2.2.2.1.2.2.2.1 r hr).1 4 (nI 4 (by decide) (by decide) r)]; rfl
    rw [e9]; exact this
  · refine List.Pairwise.imp_of_mem ?_ (c7.2 z)
    intro a b ha hb hab
    rw [hf.2.2.2 a (c4.2.2.2.2.2.2 z a ha).1 0 (hJ _ _), hf.2.2.2 b (c4.2.2.2.2.2.2 z b hb).1 0 (hJ _ _)]
    exact hab
theorem q_C_miss {S : qS} {c n fails tm : Nat} {P : List q_X} {h ar t : Nat} {ns : List Nat} {rows : Nat → List Nat} (hC : q_C S c n fails tm P h ar t ns rows) : q_C (S.sI 6 c (nI fails + 1)) c n (fails + 1) tm P h ar t ns rows ∧ q_fk S (S.sI 6 c (nI fails + 1)) := by
  refine ⟨q_C_fr (cI := fun j x => j = 6 ∧ x = c) (cR := q_c0) (cJ := q_c0) hC (q_fr_sI ⟨rfl, rfl⟩) (fun j x z => Or.inr (Or.inl z)) (fun _ _ z => z.elim) (fun _ _ z => z) ((qI_self _ _ _ _).trans (nI_1 fails)), q_fr_sI (Nat.le_of_ble_eq_true rfl)⟩
/-! THE BEST PIECE: the smallest that suffices, the latest among those -/
def v_isb (z : Nat) (A : v_V) (x : Nat × Bool × Nat) (B : v_V) : Prop := x.2.1 = true ∧ z ≤ x.1 ∧ ∀ y ∈ A ++ B, y.2.1 = true → z ≤ y.1 → x.1 < y.1 ∨ (x.1 = y.1 ∧ y.2.2 < x.2.2)
def v_non (z : Nat) (V : v_V) : Prop := ∀ y ∈ V, y.2.1 = true → y.1 < z
theorem q_C_J {S : qS} {c n fails tm : Nat} {P : List q_X} {h ar t : Nat} {ns : List Nat} {rows : Nat → List Nat} (hC : q_C S c n fails tm P h ar t ns rows) {x : q_X} (hx : x ∈ P) (hfr : x.2.2.1 = true) : (S.J 0 x.1).toInt = x.2.2.2 + 1 := by
  obtain ⟨⟨-, -, -, -, h5, -⟩, -, -, -, -, -, -, c8, c9, -⟩ := hC
  obtain ⟨a, -, -, -, -, -, ha⟩ := q_pcs_mem h5 hx
  have := c8 x hx hfr
  rw [ha hfr, q_lI (by omega)]
  omega
theorem q_nd_eq {P : List q_X} (h : (q_ad P).Nodup) {x y : q_X} (hx : x ∈ P) (hy : y ∈ P) (e : x.1 = y.1) : x = y := by
  obtain ⟨A, B, rfl⟩ := List.append_of_mem hx
  rcases (q_mem_mid (x := x) y).mp hy with h1 | h1
  · exact h1.symm
  · exact absurd e.symm (q_nd_mid h y h1)
theorem q_best {S : qS} {c n fails tm : Nat} {P : List q_X} {h ar t : Nat} {ns : List Nat} {rows : Nat → List Nat} (hC : q_C S c n fails tm P h ar t ns rows) {z z1 a : Nat} {u : List Nat} (hz : 3 ≤ z) (h1 : z ≤ z1) (hr : rows z1 = a :: u) (hno : ∀ y, z ≤ y → y < z1 → rows y = []) :
    ∃ A x B, P = A ++ x :: B ∧ x.1 = a ∧ x.2.2.1 = true ∧ x.2.1 = z1 ∧ v_isb z (q_vl A) x.2 (q_vl B) := by
  have c7 := hC.2.2.2.2.2.2.1
  have hnd := q_line_nd hC.1
  obtain ⟨-, x, hx, e1, e2, e3⟩ := (c7.1 z1 a).mp (by rw [hr]; exact List.mem_cons_self)
  obtain ⟨A, B, rfl⟩ := List.append_of_mem hx
  refine ⟨A, x, B, rfl, e1, e3, e2, e3, by rw [e2]; exact h1, ?_⟩
  intro y9 hy9 hf hs
  obtain ⟨y, hy, rfl⟩ : ∃ y ∈ A ++ B, y.2 = y9 := by
    rcases List.mem_append.mp hy9 with hy9 | hy9 <;> obtain ⟨y, hy, e⟩ := List.mem_map.mp hy9
    · exact ⟨y, List.mem_append_left _ hy, e⟩
    · exact ⟨y, List.mem_append_right _ hy, e⟩
  have hyP : y ∈ A ++ x :: B := (q_mem_mid (x := x) y).mpr (Or.inr hy)
  have hin : y.1 ∈ rows y.2.1 := (c7.1 _ _).mpr ⟨by omega, y, hyP, rfl, rfl, hf⟩
  rcases Nat.lt_trichotomy y.2.1 z1 with h2 | h2 | h2
  · rw [hno _ hs h2] at hin; cases hin
  · refine Or.inr ⟨by rw [e2]; exact h2.symm, ?_⟩
    rw [h2, hr] at hin
    have hne : y.1 ≠ a := fun e => q_nd_mid hnd y hy (e.trans e1.symm)
    have hu : y.1 ∈ u := by
      rcases List.mem_cons.mp hin with e | e
      · exact absurd e hne
      · exact e
    have hp := c7.2 z1
    rw [hr] at hp
    have := (List.pairwise_cons.mp hp).1 y.1 hu
    rw [q_C_J hC hyP hf, ← e1, q_C_J hC hx e3] at this
    omega
  · exact Or.inl (by rw [e2]; exact h2)
theorem q_none {S : qS} {c n fails tm : Nat} {P : List q_X} {h ar t : Nat} {ns : List Nat} {rows : Nat → List Nat} (hC : q_C S c n fails tm P h ar t ns rows) {z : Nat} (hz : 3 ≤ z) (hno : ∀ y, z ≤ y → rows y = []) : v_non z (q_vl P) := by
  intro y9 hy9 hf
  obtain ⟨y, hy, rfl⟩ := List.mem_map.mp hy9
  rcases Nat.lt_or_ge y.2.1 z with h1 | h1
  · exact h1
  · have := (hC.2.2.2.2.2.2.1.1 y.2.1 y.1).mpr ⟨by omega, y, hy, rfl, rfl, hf⟩
    rw [hno _ h1] at this
    cases this
end
section
theorem q_i16 : (16 : Int32).toInt = 16 := by decide
theorem q_i16384 : (16384 : Int32).toInt = 16384 := by decide
theorem q_i5000 : (5000 : Int32).toInt = 5000 := by decide
abbrev v_szok (a : Int) : Prop := 3 ≤ a ∧ a ≤ 5000
set_option maxHeartbeats 4000000 in
set_option maxRecDepth 100000 in
theorem c0_Shelf_requireSize (l : Launch) (hl9 : l.stackTraces = false) (E : qE) (S : qS) (a : Int32) (post : qS → Prop) (px : qS → Prop) (hpost : ∀ S1, (S1 = S ∧ v_szok a.toInt) → post S1) (hpx : ∀ S1, (S1 = S ∧ ¬ v_szok a.toInt) → px S1) : x_Mv l yX4_requireSize cX4_requireSize 1 { frames := 6, cells := 1, slots := 6, locals := 82 } E [.int a] S (post) q_IA (px) 1 6 := by
  refine x_ofW1 (by decide) (q_1c rfl q_1n) (Nat.le_of_ble_eq_true rfl) (fun p e s m below meth c C hV hr hlk hnm hnt ls hl => ?_)
  have hl : lv_has ls 1 [(0, .int (a))] := hl
  refine lv_iload_n C.1 C.2.1 dX4_requireSize_0 rfl (lv_at hl 0 rfl) ?_
  refine lv_iconst (v := 3) C.1 C.2.1 dX4_requireSize_1 (by decide) ?_
  refine lv_icmp_lt (tgt := 12) C.1 C.2.1 dX4_requireSize_2 (by decide) (fun c2 => ?_) (fun c2 => ?_)
  · have hb : ¬ v_szok a.toInt := fun h => by have := q_i_lt.mp c2; rw [q_i3] at this; omega
    exact q_thI (txt := "size is not 3 .. 5000") C hV hl9 hnt hlk hl.1 (by decide) dX4_requireSize_12 dX4_requireSize_15 dX4_requireSize_16 dX4_requireSize_18 dX4_requireSize_21 (by decide) (by decide) (by decide) (by decide) (by decide) (by decide) (hpx _ ⟨rfl, hb⟩)
  · refine lv_iload_n C.1 C.2.1 dX4_requireSize_5 rfl (lv_at hl 0 rfl) ?_
    refine lv_sipush (v := 5000) C.1 C.2.1 dX4_requireSize_6 (by decide) ?_
    refine lv_icmp_le (tgt := 22) C.1 C.2.1 dX4_requireSize_9 (by decide) (fun c9 => ?_) (fun c9 => ?_)
    · have hb : v_szok a.toInt := ⟨by
        rcases Int.lt_or_le a.toInt 3 with h | h
        · exact absurd (q_i_lt.mpr (by rw [q_i3]; exact h)) c2
        · exact h, by have := q_i_le.mp c9; rw [q_i5000] at this; exact this⟩
      refine vx_ret (q_vret C hV hr hlk (by decide) (by decide) dX4_requireSize_22 ?_)
      exact hpost _ ⟨rfl, hb⟩
    · have hb : ¬ v_szok a.toInt := fun h => c9 (q_i_le.mpr (by rw [q_i5000]; exact h.2))
      exact q_thI (txt := "size is not 3 .. 5000") C hV hl9 hnt hlk hl.1 (by decide) dX4_requireSize_12 dX4_requireSize_15 dX4_requireSize_16 dX4_requireSize_18 dX4_requireSize_21 (by decide) (by decide) (by decide) (by decide) (by decide) (by decide) (hpx _ ⟨rfl, hb⟩)
theorem c_Shelf_requireSize (l : Launch) (hl9 : l.stackTraces = false) (E : qE) (S : qS) (a : Int32) : x_Mv l yX4_requireSize cX4_requireSize 1 { frames := 6, cells := 1, slots := 6, locals := 82 } E [.int a] S (fun S1 => S1 = S ∧ v_szok a.toInt) q_IA (fun S1 => S1 = S ∧ ¬ v_szok a.toInt) 1 6 := c0_Shelf_requireSize l hl9 E S a _ _ (fun _ h => h) (fun _ h => h)

set_option maxHeartbeats 4000000 in
set_option maxRecDepth 100000 in
theorem c0_Shelf_space (l : Launch) (hl9 : l.stackTraces = false) (E : qE) (S : qS) (c9 h ar t n9 f9 tm : Nat) (P : List q_X) (ns : List Nat) (rows : Nat → List Nat) (hC : q_C S c9 n9 f9 tm P h ar t ns rows) (htm : tm + 1 < 2 ^ 40) (a : Int32) (post : Int32 → qS → Prop) (px : qS → Prop) (hpost : ∀ r S1, (r = nI n9 ∧ (16 ≤ a.toInt ∧ a.toInt ≤ 16384) ∧ ∃ q, q_CC S1 c9 a.toInt.toNat 0 (tm + 1) [(q, a.toInt.toNat, true, tm)] h ar t ∧ q_fk S S1) → post r S1) (hpx : ∀ S1, (S1 = S ∧ ¬ (16 ≤ a.toInt ∧ a.toInt ≤ 16384)) → px S1) : x_Mi l yX4_space cX4_space 3 { frames := 6, cells := 2, slots := 11, locals := 97 } E [.ref c9, .int a] S (post) q_IA (px) 2 11 := by
  refine x_ofW1 (by decide) (q_1c rfl (q_1c rfl q_1n)) (Nat.le_of_ble_eq_true rfl) (fun p e s m below meth c C hV hr hlk hnm hnt ls hl => ?_)
  have hl : lv_has ls 3 [(0, va_rf (some c9)), (1, .int (a))] := hl
  obtain ⟨hL_c9, hK_c9, hR8, hL_h, hK_h, hJ⟩ := q_C_cl hC
  refine lv_iload_n C.1 C.2.1 dX4_space_0 rfl (lv_at hl 1 rfl) ?_
  refine lv_bipush (v := 16) C.1 C.2.1 dX4_space_1 (by decide) ?_
  refine lv_icmp_lt (tgt := 13) C.1 C.2.1 dX4_space_3 (by decide) (fun c3 => ?_) (fun c3 => ?_)
  · have hb : ¬ (16 ≤ a.toInt ∧ a.toInt ≤ 16384) := fun h => by have := q_i_lt.mp c3; rw [q_i16] at this; omega
    exact q_thI (txt := "n is not 16 .. 16384") C hV hl9 hnt hlk hl.1 (by decide) dX4_space_13 dX4_space_16 dX4_space_17 dX4_space_19 dX4_space_22 (by decide) (by decide) (by decide) (by decide) (by decide) (by decide) (hpx _ ⟨rfl, hb⟩)
  · refine lv_iload_n C.1 C.2.1 dX4_space_6 rfl (lv_at hl 1 rfl) ?_
    refine lv_sipush (v := 16384) C.1 C.2.1 dX4_space_7 (by decide) ?_
    refine lv_icmp_le (tgt := 23) C.1 C.2.1 dX4_space_10 (by decide) (fun c10 => ?_) (fun c10 => ?_)
    · have hb : 16 ≤ a.toInt ∧ a.toInt ≤ 16384 := ⟨by
        rcases Int.lt_or_le a.toInt 16 with h | h
        · exact absurd (q_i_lt.mpr (by rw [q_i16]; exact h)) c3
        · exact h, by have := q_i_le.mp c10; rw [q_i16384] at this; exact this⟩
      obtain ⟨ha, ha2⟩ := q_nat (x := a) (by omega)
      refine q_aload_n (r := some c9) C dX4_space_23 rfl (lv_at hl 0 rfl) ?_
      refine g_Shelf_cellCount C hV hL_c9 hK_c9 (Or.inl wd_179) dX4_space_24 ?_
      refine q_ti (v' := nI n9) (hC.1.2.2.1) ?_
      refine q_istore_n (x := nI n9) (lv' := [(2, .int (nI n9)), (0, va_rf (some c9)), (1, .int (a))]) C dX4_space_27 rfl hl (by decide) (q_k0 (q_kN 0 rfl (by decide) (by decide) (q_kC 1 rfl (by decide) rfl q_kz))) (fun ls hl => ?_)
      refine q_aload_n (r := some c9) C dX4_space_28 rfl (lv_at hl 1 rfl) ?_
      refine lv_iload_n C.1 C.2.1 dX4_space_29 rfl (lv_at hl 2 rfl) ?_
      refine q_ti (v' := nI a.toInt.toNat) ha ?_
      refine q_cv hV (q_rV (b := c9) (As := [.int (nI a.toInt.toNat)]) (rest := []) C hV (c_Shelf_startWith l E S c9 h ar t a.toInt.toNat tm ns rows hL_c9 hK_c9 hR8 hC.2.2.2.1 hJ htm (by omega) (by omega)) wd_110 wd_107 wd_109 wd_0 wd_37 ok_X4_startWith ⟨rfl, rfl, Nat.le_of_ble_eq_true rfl, Nat.le_of_ble_eq_true rfl⟩ (q_rc4 hV hL_c9 hK_c9) rfl hl.1 rfl (q_sm q_1n (Nat.le_of_ble_eq_true rfl)) dX4_space_30 ⟨Nat.le_of_ble_eq_true rfl, Nat.le_of_ble_eq_true rfl⟩) (fun S30 H locs hp30 hV => ?_)
      obtain ⟨q, ns1, rows1, hC1, hf1⟩ := hp30
      refine lv_iload_n C.1 C.2.1 dX4_space_33 rfl (lv_at hl 0 rfl) ?_
      refine vx_ret (q_iret (v := nI n9) C hV hr hlk (by decide) (by decide) dX4_space_34 ?_)
      exact hpost _ _ ⟨rfl, hb, q, ⟨ns1, rows1, hC1⟩, hf1⟩
    · have hb : ¬ (16 ≤ a.toInt ∧ a.toInt ≤ 16384) := fun h => c10 (q_i_le.mpr (by rw [q_i16384]; exact h.2))
      exact q_thI (txt := "n is not 16 .. 16384") C hV hl9 hnt hlk hl.1 (by decide) dX4_space_13 dX4_space_16 dX4_space_17 dX4_space_19 dX4_space_22 (by decide) (by decide) (by decide) (by decide) (by decide) (by decide) (hpx _ ⟨rfl, hb⟩)
theorem c_Shelf_space (l : Launch) (hl9 : l.stackTraces = false) (E : qE) (S : qS) (c9 h ar t n9 f9 tm : Nat) (P : List q_X) (ns : List Nat) (rows : Nat → List Nat) (hC : q_C S c9 n9 f9 tm P h ar t ns rows) (htm : tm + 1 < 2 ^ 40) (a : Int32) : x_Mi l yX4_space cX4_space 3 { frames := 6, cells := 2, slots := 11, locals := 97 } E [.ref c9, .int a] S (fun r S1 => r = nI n9 ∧ (16 ≤ a.toInt ∧ a.toInt ≤ 16384) ∧ ∃ q, q_CC S1 c9 a.toInt.toNat 0 (tm + 1) [(q, a.toInt.toNat, true, tm)] h ar t ∧ q_fk S S1) q_IA (fun S1 => S1 = S ∧ ¬ (16 ≤ a.toInt ∧ a.toInt ≤ 16384)) 2 11 := c0_Shelf_space l hl9 E S c9 h ar t n9 f9 tm P ns rows hC htm a _ _ (fun _ _ h => h) (fun _ h => h)

set_option maxHeartbeats 4000000 in
set_option maxRecDepth 100000 in
theorem c0_Shelf_suffices (l : Launch) (hl9 : l.stackTraces = false) (E : qE) (S : qS) (c9 h ar t n9 f9 tm : Nat) (P : List q_X) (ns : List Nat) (rows : Nat → List Nat) (hC : q_C S c9 n9 f9 tm P h ar t ns rows) (a : Int32) (post : Int32 → qS → Prop) (px : qS → Prop) (hpost : ∀ r S1, (S1 = S ∧ v_szok a.toInt ∧ ((r = 0 ∧ v_non a.toInt.toNat (q_vl P)) ∨ ∃ A x B, P = A ++ x :: B ∧ v_isb a.toInt.toNat (q_vl A) x.2 (q_vl B) ∧ r = nI (1 + q_sz A))) → post r S1) (hpx : ∀ S1, (S1 = S ∧ ¬ v_szok a.toInt) → px S1) : x_Mi l yX4_suffices cX4_suffices 3 { frames := 7, cells := 1, slots := 6, locals := 103 } E [.ref c9, .int a] S (post) q_IA (px) 1 6 := by
  refine x_ofW1 (by decide) (q_1c rfl (q_1c rfl q_1n)) (Nat.le_of_ble_eq_true rfl) (fun p e s m below meth c C hV hr hlk hnm hnt ls hl => ?_)
  have hl : lv_has ls 3 [(0, va_rf (some c9)), (1, .int (a))] := hl
  obtain ⟨hL_c9, hK_c9, hR8, hL_h, hK_h, hJ⟩ := q_C_cl hC
  refine lv_iload_n C.1 C.2.1 dX4_suffices_0 rfl (lv_at hl 1 rfl) ?_
  refine q_xcv hV (x_rS (As := [.int (a)]) (rest := []) C hV (c_Shelf_requireSize l hl9 E S a) wd_340 wd_338 wd_339 wd_37 ok_X4_requireSize ⟨rfl, rfl, Nat.le_of_ble_eq_true rfl, Nat.le_of_ble_eq_true rfl⟩ rfl hl.1 rfl (q_sm q_1n (Nat.le_of_ble_eq_true rfl)) dX4_suffices_1 ⟨Nat.le_of_ble_eq_true rfl, Nat.le_of_ble_eq_true rfl⟩) (fun q1 ce1 S1 H locs hx1 hV hq1 hq2 hq3 => q_thru hV hnt hlk hq1 hq2 hq3 (by decide) (by decide) (hpx _ hx1)) (fun S1 H locs hp1 hV => ?_)
  obtain ⟨eS1, hp1⟩ := hp1
  rw [eS1] at hV
  have hb := hp1
  obtain ⟨ha, ha2⟩ := q_nat (x := a) (by omega)
  refine q_aload_n (r := some c9) C dX4_suffices_4 rfl (lv_at hl 0 rfl) ?_
  refine g_Shelf_shelves C hV hL_c9 hK_c9 (Or.inl wd_177) dX4_suffices_5 ?_
  refine q_tr (v' := some h) (hR8) ?_
  refine lv_iload_n C.1 C.2.1 dX4_suffices_8 rfl (lv_at hl 1 rfl) ?_
  refine q_ti (v' := nI a.toInt.toNat) ha ?_
  refine q_cq hV (q_rN (b := h) (As := [.int (nI a.toInt.toNat)]) (rest := []) C hV (c_Shelves_smallestFrom l E S h ar t ns rows hC.2.2.2.1 a.toInt.toNat (by omega) (by omega) hC.2.2.2.2.1) wd_345 wd_342 wd_344 wd_19 wd_38 ok_X2_smallestFrom ⟨rfl, rfl, Nat.le_of_ble_eq_true rfl, Nat.le_of_ble_eq_true rfl⟩ (q_rc2 hV hL_h hK_h) rfl hl.1 rfl (q_sm q_1n (Nat.le_of_ble_eq_true rfl)) dX4_suffices_9 ⟨Nat.le_of_ble_eq_true rfl, Nat.le_of_ble_eq_true rfl⟩) (fun r9 S9 H locs hp9 hV => ?_)
  obtain ⟨eS9, hp9⟩ := hp9
  rw [eS9] at hV
  refine q_astore_n (r := r9) (lv' := [(2, va_rf (r9)), (0, va_rf (some c9)), (1, .int (a))]) C dX4_suffices_12 rfl hl (by decide) (q_k0 (q_kN 0 rfl (by decide) (by decide) (q_kC 1 rfl (by decide) rfl q_kz))) (fun ls hl => ?_)
  refine q_aload_n (r := r9) C dX4_suffices_13 rfl (lv_at hl 0 rfl) ?_
  refine q_ifnonnull (r := r9) (tgt := 21) C dX4_suffices_14 (by decide) (fun x14 c14 => ?_) (fun c14 => ?_)
  · subst c14
    rcases hp9 with ⟨h9, -⟩ | ⟨z1, hz1, a1, u1, hr1, h9, hno⟩
    · exact absurd h9 (fun z => nomatch z)
    obtain ⟨A, x, B, rfl, ex, efr, esz, hbest⟩ := q_best hC (by omega) hz1 hr1 hno
    cases h9
    subst ex
    obtain ⟨hL_x, hK_x, hI0, hI1, hI2, -, -, hsz, hn9⟩ := q_C_at hC
    refine q_aload_n (r := some x.1) C dX4_suffices_21 rfl (lv_at hl 0 rfl) ?_
    refine g_Piece_at C hV hL_x hK_x (Or.inr ⟨_, wd_122⟩) dX4_suffices_22 ?_
    refine q_ti (v' := nI (1 + q_sz A)) (hI0) ?_
    refine vx_ret (q_iret (v := nI (1 + q_sz A)) C hV hr hlk (by decide) (by decide) dX4_suffices_25 ?_)
    exact hpost _ _ ⟨rfl, hb, Or.inr ⟨A, x, B, rfl, hbest, rfl⟩⟩
  · subst c14
    refine lv_iconst (v := 0) C.1 C.2.1 dX4_suffices_17 (by decide) ?_
    refine lv_goto (tgt := 25) C.1 C.2.1 dX4_suffices_18 (by decide) ?_
    refine vx_ret (q_iret (v := 0) C hV hr hlk (by decide) (by decide) dX4_suffices_25 ?_)
    rcases hp9 with ⟨-, hno⟩ | ⟨z1, hz1, a1, u1, hr1, h9, -⟩
    · exact hpost _ _ ⟨rfl, hb, Or.inl ⟨rfl, q_none hC (z := a.toInt.toNat) (by omega) hno⟩⟩
    · exact absurd h9 (fun z => nomatch z)
theorem c_Shelf_suffices (l : Launch) (hl9 : l.stackTraces = false) (E : qE) (S : qS) (c9 h ar t n9 f9 tm : Nat) (P : List q_X) (ns : List Nat) (rows : Nat → List Nat) (hC : q_C S c9 n9 f9 tm P h ar t ns rows) (a : Int32) : x_Mi l yX4_suffices cX4_suffices 3 { frames := 7, cells := 1, slots := 6, locals := 103 } E [.ref c9, .int a] S (fun r S1 => S1 = S ∧ v_szok a.toInt ∧ ((r = 0 ∧ v_non a.toInt.toNat (q_vl P)) ∨ ∃ A x B, P = A ++ x :: B ∧ v_isb a.toInt.toNat (q_vl A) x.2 (q_vl B) ∧ r = nI (1 + q_sz A))) q_IA (fun S1 => S1 = S ∧ ¬ v_szok a.toInt) 1 6 := c0_Shelf_suffices l hl9 E S c9 h ar t n9 f9 tm P ns rows hC a _ _ (fun _ _ h => h) (fun _ h => h)

set_option maxHeartbeats 4000000 in
set_option maxRecDepth 100000 in
theorem c0_Shelf_take (l : Launch) (hl9 : l.stackTraces = false) (E : qE) (S : qS) (c9 h ar t n9 f9 tm : Nat) (P : List q_X) (ns : List Nat) (rows : Nat → List Nat) (hC : q_C S c9 n9 f9 tm P h ar t ns rows) (htm : tm + 1 < 2 ^ 40) (a : Int32) (post : Int32 → qS → Prop) (px : qS → Prop) (hpost : ∀ r S1, (v_szok a.toInt ∧ q_fk S S1 ∧ ((r = 0 ∧ v_non a.toInt.toNat (q_vl P) ∧ q_CC S1 c9 n9 (f9 + 1) tm P h ar t) ∨ ∃ A x B, P = A ++ x :: B ∧ v_isb a.toInt.toNat (q_vl A) x.2 (q_vl B) ∧ r = nI (1 + q_sz A) ∧ ((x.2.1 = a.toInt.toNat ∧ q_CC S1 c9 n9 f9 tm (A ++ (x.1, a.toInt.toNat, false, x.2.2.2) :: B) h ar t) ∨ (a.toInt.toNat < x.2.1 ∧ ∃ q, q_CC S1 c9 n9 f9 (tm + 1) (A ++ (x.1, a.toInt.toNat, false, x.2.2.2) :: (q, x.2.1 - a.toInt.toNat, true, tm) :: B) h ar t)))) → post r S1) (hpx : ∀ S1, (S1 = S ∧ ¬ v_szok a.toInt) → px S1) : x_Mi l yX4_take cX4_take 3 { frames := 7, cells := 3, slots := 17, locals := 103 } E [.ref c9, .int a] S (post) q_IA (px) 3 17 := by
  refine x_ofW1 (by decide) (q_1c rfl (q_1c rfl q_1n)) (Nat.le_of_ble_eq_true rfl) (fun p e s m below meth c C hV hr hlk hnm hnt ls hl => ?_)
  have hl : lv_has ls 3 [(0, va_rf (some c9)), (1, .int (a))] := hl
  obtain ⟨hL_c9, hK_c9, hR8, hL_h, hK_h, hJ⟩ := q_C_cl hC
  refine lv_iload_n C.1 C.2.1 dX4_take_0 rfl (lv_at hl 1 rfl) ?_
  refine q_xcv hV (x_rS (As := [.int (a)]) (rest := []) C hV (c_Shelf_requireSize l hl9 E S a) wd_340 wd_338 wd_339 wd_37 ok_X4_requireSize ⟨rfl, rfl, Nat.le_of_ble_eq_true rfl, Nat.le_of_ble_eq_true rfl⟩ rfl hl.1 rfl (q_sm q_1n (Nat.le_of_ble_eq_true rfl)) dX4_take_1 ⟨Nat.le_of_ble_eq_true rfl, Nat.le_of_ble_eq_true rfl⟩) (fun q1 ce1 S1 H locs hx1 hV hq1 hq2 hq3 => q_thru hV hnt hlk hq1 hq2 hq3 (by decide) (by decide) (hpx _ hx1)) (fun S1 H locs hp1 hV => ?_)
  obtain ⟨eS1, hp1⟩ := hp1
  rw [eS1] at hV
  have hb := hp1
  obtain ⟨ha, ha2⟩ := q_nat (x := a) (by omega)
  refine q_aload_n (r := some c9) C dX4_take_4 rfl (lv_at hl 0 rfl) ?_
  refine g_Shelf_shelves C hV hL_c9 hK_c9 (Or.inl wd_177) dX4_take_5 ?_
  refine q_tr (v' := some h) (hR8) ?_
  refine lv_iload_n C.1 C.2.1 dX4_take_8 rfl (lv_at hl 1 rfl) ?_
  refine q_ti (v' := nI a.toInt.toNat) ha ?_
  refine q_cq hV (q_rN (b := h) (As := [.int (nI a.toInt.toNat)]) (rest := []) C hV (c_Shelves_smallestFrom l E S h ar t ns rows hC.2.2.2.1 a.toInt.toNat (by omega) (by omega) hC.2.2.2.2.1) wd_345 wd_342 wd_344 wd_19 wd_38 ok_X2_smallestFrom ⟨rfl, rfl, Nat.le_of_ble_eq_true rfl, Nat.le_of_ble_eq_true rfl⟩ (q_rc2 hV hL_h hK_h) rfl hl.1 rfl (q_sm q_1n (Nat.le_of_ble_eq_true rfl)) dX4_take_9 ⟨Nat.le_of_ble_eq_true rfl, Nat.le_of_ble_eq_true rfl⟩) (fun r9 S9 H locs hp9 hV => ?_)
  obtain ⟨eS9, hp9⟩ := hp9
  rw [eS9] at hV
  refine q_astore_n (r := r9) (lv' := [(2, va_rf (r9)), (0, va_rf (some c9)), (1, .int (a))]) C dX4_take_12 rfl hl (by decide) (q_k0 (q_kN 0 rfl (by decide) (by decide) (q_kC 1 rfl (by decide) rfl q_kz))) (fun ls hl => ?_)
  refine q_aload_n (r := r9) C dX4_take_13 rfl (lv_at hl 0 rfl) ?_
  refine q_ifnonnull (r := r9) (tgt := 29) C dX4_take_14 (by decide) (fun x14 c14 => ?_) (fun c14 => ?_)
  · subst c14
    rcases hp9 with ⟨h9, -⟩ | ⟨z1, hz1, a1, u1, hr1, h9, hno⟩
    · exact absurd h9 (fun z => nomatch z)
    obtain ⟨A, x, B, rfl, ex, efr, esz, hbest⟩ := q_best hC (by omega) hz1 hr1 hno
    cases h9
    subst ex
    obtain ⟨hL_x, hK_x, hI0, hI1, hI2, -, -, hsz, hn9⟩ := q_C_at hC
    refine q_aload_n (r := some c9) C dX4_take_29 rfl (lv_at hl 1 rfl) ?_
    refine g_Shelf_shelves C hV hL_c9 hK_c9 (Or.inl wd_177) dX4_take_30 ?_
    refine q_tr (v' := some h) (hR8) ?_
    refine q_aload_n (r := some x.1) C dX4_take_33 rfl (lv_at hl 0 rfl) ?_
    refine q_cv hV (q_rN (b := h) (As := [va_rf (some x.1)]) (rest := []) C hV (c_pullC l E S c9 n9 f9 tm A B x h ar t ns rows hC efr) wd_201 wd_198 wd_200 wd_9 wd_38 ok_X2_pullOut ⟨rfl, rfl, Nat.le_of_ble_eq_true rfl, Nat.le_of_ble_eq_true rfl⟩ (q_rc2 hV hL_h hK_h) rfl hl.1 rfl (q_sm q_1n (Nat.le_of_ble_eq_true rfl)) dX4_take_34 ⟨Nat.le_of_ble_eq_true rfl, Nat.le_of_ble_eq_true rfl⟩) (fun S34 H locs hp34 hV => ?_)
    obtain ⟨ns34, rows34, hC34, hf34⟩ := hp34
    obtain ⟨hL_x, hK_x, hI0, hI1, -, -, -, -, -⟩ := q_C_at hC34
    obtain ⟨hL_c3, hK_c3, -, -, -, -⟩ := q_C_cl hC34
    refine q_aload_n (r := some x.1) C dX4_take_37 rfl (lv_at hl 0 rfl) ?_
    refine g_Piece_cells C hV hL_x hK_x (Or.inr ⟨_, wd_124⟩) dX4_take_38 ?_
    refine q_ti (v' := nI x.2.1) (hI1) ?_
    refine lv_iload_n C.1 C.2.1 dX4_take_41 rfl (lv_at hl 2 rfl) ?_
    refine lv_icmp_le (tgt := 51) C.1 C.2.1 dX4_take_42 (by decide) (fun c42 => ?_) (fun c42 => ?_)
    · have heq : x.2.1 = a.toInt.toNat := by
        have h1 := q_i_le.mp c42
        rw [nI_toInt (by omega)] at h1
        have h2 := hbest.2.1
        omega
      refine q_aload_n (r := some x.1) C dX4_take_51 rfl (lv_at hl 0 rfl) ?_
      refine g_Piece_at C hV hL_x hK_x (Or.inr ⟨_, wd_122⟩) dX4_take_52 ?_
      refine q_ti (v' := nI (1 + q_sz A)) (hI0) ?_
      refine vx_ret (q_iret (v := nI (1 + q_sz A)) C hV hr hlk (by decide) (by decide) dX4_take_55 ?_)
      exact hpost _ _ ⟨hb, hf34, Or.inr ⟨A, x, B, rfl, hbest, rfl, Or.inl ⟨heq, ns34, rows34, by rw [← heq]; exact hC34⟩⟩⟩
    · have hlt : a.toInt.toNat < x.2.1 := by
        rcases Nat.lt_or_ge a.toInt.toNat x.2.1 with h | h
        · exact h
        · exact absurd (q_i_le.mpr (by rw [nI_toInt (by omega)]; omega)) c42
      refine q_aload_n (r := some c9) C dX4_take_45 rfl (lv_at hl 1 rfl) ?_
      refine q_aload_n (r := some x.1) C dX4_take_46 rfl (lv_at hl 0 rfl) ?_
      refine lv_iload_n C.1 C.2.1 dX4_take_47 rfl (lv_at hl 2 rfl) ?_
      refine q_ti (v' := nI a.toInt.toNat) ha ?_
      refine q_cv hV (q_rV (b := c9) (As := [va_rf (some x.1), .int (nI a.toInt.toNat)]) (rest := []) C hV (c_Shelf_cut l E S34 c9 h ar t n9 f9 tm x.1 x.2.1 a.toInt.toNat x.2.2.2 A B ns34 rows34 hC34 (by omega) hlt htm) wd_352 wd_349 wd_351 wd_20 wd_37 ok_X4_cut ⟨rfl, rfl, Nat.le_of_ble_eq_true rfl, Nat.le_of_ble_eq_true rfl⟩ (q_rc4 hV hL_c3 hK_c3) rfl hl.1 rfl (q_sm q_1n (Nat.le_of_ble_eq_true rfl)) dX4_take_48 ⟨Nat.le_of_ble_eq_true rfl, Nat.le_of_ble_eq_true rfl⟩) (fun S48 H locs hp48 hV => ?_)
      obtain ⟨q48, ⟨ns48, rows48, hC48⟩, hf48⟩ := hp48
      obtain ⟨hL_x, hK_x, hI0, -, -, -, -, -, -⟩ := q_C_at hC48
      refine q_aload_n (r := some x.1) C dX4_take_51 rfl (lv_at hl 0 rfl) ?_
      refine g_Piece_at C hV hL_x hK_x (Or.inr ⟨_, wd_122⟩) dX4_take_52 ?_
      refine q_ti (v' := nI (1 + q_sz A)) (hI0) ?_
      refine vx_ret (q_iret (v := nI (1 + q_sz A)) C hV hr hlk (by decide) (by decide) dX4_take_55 ?_)
      exact hpost _ _ ⟨hb, q_fr_tr hf34 hf48, Or.inr ⟨A, x, B, rfl, hbest, rfl, Or.inr ⟨hlt, q48, ns48, rows48, hC48⟩⟩⟩
  · subst c14
    refine q_aload_n (r := some c9) C dX4_take_17 rfl (lv_at hl 1 rfl) ?_
    refine lv_dup C.1 C.2.1 dX4_take_18 rfl ?_
    refine g_Shelf_misses C hV hL_c9 hK_c9 (Or.inl wd_180) dX4_take_19 ?_
    refine q_ti (v' := nI f9) (hC.2.2.1) ?_
    refine lv_iconst (v := 1) C.1 C.2.1 dX4_take_22 (by decide) ?_
    refine lv_iadd C.1 C.2.1 dX4_take_23 ?_
    refine p_Shelf_misses (v := (nI f9) + 1) C hV hL_c9 hK_c9 (Or.inl wd_180) dX4_take_24 (fun H locs hV => ?_)
    refine lv_iconst (v := 0) C.1 C.2.1 dX4_take_27 (by decide) ?_
    refine vx_ret (q_iret (v := 0) C hV hr hlk (by decide) (by decide) dX4_take_28 ?_)
    rcases hp9 with ⟨-, hno⟩ | ⟨z1, hz1, a1, u1, hr1, h9, -⟩
    · exact hpost _ _ ⟨hb, (q_C_miss hC).2, Or.inl ⟨rfl, q_none hC (z := a.toInt.toNat) (by omega) hno, ns, rows, (q_C_miss hC).1⟩⟩
    · exact absurd h9 (fun z => nomatch z)
theorem c_Shelf_take (l : Launch) (hl9 : l.stackTraces = false) (E : qE) (S : qS) (c9 h ar t n9 f9 tm : Nat) (P : List q_X) (ns : List Nat) (rows : Nat → List Nat) (hC : q_C S c9 n9 f9 tm P h ar t ns rows) (htm : tm + 1 < 2 ^ 40) (a : Int32) : x_Mi l yX4_take cX4_take 3 { frames := 7, cells := 3, slots := 17, locals := 103 } E [.ref c9, .int a] S (fun r S1 => v_szok a.toInt ∧ q_fk S S1 ∧ ((r = 0 ∧ v_non a.toInt.toNat (q_vl P) ∧ q_CC S1 c9 n9 (f9 + 1) tm P h ar t) ∨ ∃ A x B, P = A ++ x :: B ∧ v_isb a.toInt.toNat (q_vl A) x.2 (q_vl B) ∧ r = nI (1 + q_sz A) ∧ ((x.2.1 = a.toInt.toNat ∧ q_CC S1 c9 n9 f9 tm (A ++ (x.1, a.toInt.toNat, false, x.2.2.2) :: B) h ar t) ∨ (a.toInt.toNat < x.2.1 ∧ ∃ q, q_CC S1 c9 n9 f9 (tm + 1) (A ++ (x.1, a.toInt.toNat, false, x.2.2.2) :: (q, x.2.1 - a.toInt.toNat, true, tm) :: B) h ar t)))) q_IA (fun S1 => S1 = S ∧ ¬ v_szok a.toInt) 3 17 := c0_Shelf_take l hl9 E S c9 h ar t n9 f9 tm P ns rows hC htm a _ _ (fun _ _ h => h) (fun _ h => h)

set_option maxHeartbeats 4000000 in
set_option maxRecDepth 100000 in
theorem c0_Shelf_give (l : Launch) (hl9 : l.stackTraces = false) (E : qE) (S : qS) (c9 h ar t n9 f9 tm : Nat) (P : List q_X) (ns : List Nat) (rows : Nat → List Nat) (hC : q_C S c9 n9 f9 tm P h ar t ns rows) (htm : tm + 1 < 2 ^ 40) (a : Int32) (post : Int32 → qS → Prop) (px : qS → Prop) (hpost : ∀ r S1, (∃ A x B, P = A ++ x :: B ∧ x.2.2.1 = false ∧ a.toInt = 1 + q_sz A ∧ r = nI x.2.1 ∧ q_CC S1 c9 n9 f9 (tm + 1) (A ++ (x.1, x.2.1, true, tm) :: B) h ar t ∧ q_fk S S1) → post r S1) (hpx : ∀ S1, (S1 = S ∧ ∀ A x B, P = A ++ x :: B → a.toInt = 1 + q_sz A → x.2.2.1 = true) → px S1) : x_Mi l yX4_give cX4_give 3 { frames := 7, cells := 1, slots := 6, locals := 103 } E [.ref c9, .int a] S (post) q_NE (px) 1 6 := by
  refine x_ofW1 (by decide) (q_1c rfl (q_1c rfl q_1n)) (Nat.le_of_ble_eq_true rfl) (fun p e s m below meth c C hV hr hlk hnm hnt ls hl => ?_)
  have hl : lv_has ls 3 [(0, va_rf (some c9)), (1, .int (a))] := hl
  obtain ⟨hL_c9, hK_c9, hR8, hL_h, hK_h, hJ⟩ := q_C_cl hC
  refine q_aload_n (r := some c9) C dX4_give_0 rfl (lv_at hl 0 rfl) ?_
  refine lv_iload_n C.1 C.2.1 dX4_give_1 rfl (lv_at hl 1 rfl) ?_
  refine q_cq hV (q_rV (b := c9) (As := [.int (a)]) (rest := []) C hV (c_Shelf_beginningAt l E S c9 n9 P hC.1 hC.2.2.2.2.2.2.2.2.2 a) wd_225 wd_222 wd_224 wd_13 wd_37 ok_X4_beginningAt ⟨rfl, rfl, Nat.le_of_ble_eq_true rfl, Nat.le_of_ble_eq_true rfl⟩ (q_rc4 hV hL_c9 hK_c9) rfl hl.1 rfl (q_sm q_1n (Nat.le_of_ble_eq_true rfl)) dX4_give_2 ⟨Nat.le_of_ble_eq_true rfl, Nat.le_of_ble_eq_true rfl⟩) (fun r2 S2 H locs hp2 hV => ?_)
  obtain ⟨eS2, hp2⟩ := hp2
  rw [eS2] at hV
  refine q_astore_n (r := r2) (lv' := [(2, va_rf (r2)), (0, va_rf (some c9)), (1, .int (a))]) C dX4_give_5 rfl hl (by decide) (q_k0 (q_kN 0 rfl (by decide) (by decide) (q_kC 1 rfl (by decide) rfl q_kz))) (fun ls hl => ?_)
  refine q_aload_n (r := r2) C dX4_give_6 rfl (lv_at hl 0 rfl) ?_
  refine q_ifnull (r := r2) (tgt := 17) C dX4_give_7 (by decide) (fun c7 => ?_) (fun x7 c7 => ?_)
  · subst c7
    have hpx9 : ∀ A1 x1 B1, P = A1 ++ x1 :: B1 → a.toInt = 1 + q_sz A1 → x1.2.2.1 = true := by
      intro A1 x1 B1 e1 e2
      rcases hp2 with ⟨-, h9⟩ | ⟨A, x, B, -, h9, -⟩
      · exact absurd e2 (h9 A1 x1 B1 e1)
      · exact absurd h9 (fun z => nomatch z)
    exact q_thN (txt := "no used piece begins there") C hV hl9 hnt hlk hl.1 (by decide) dX4_give_17 dX4_give_20 dX4_give_21 dX4_give_23 dX4_give_26 (by decide) (by decide) (by decide) (by decide) (by decide) (by decide) (hpx _ ⟨rfl, hpx9⟩)
  · subst c7
    rcases hp2 with ⟨h9, -⟩ | ⟨A, x, B, rfl, h9, hat⟩
    · exact absurd h9 (fun z => nomatch z)
    cases h9
    obtain ⟨hL_x, hK_x, hI0, hI1, hI2, -, -, hsz, hn9⟩ := q_C_at hC
    refine q_aload_n (r := some x.1) C dX4_give_10 rfl (lv_at hl 0 rfl) ?_
    refine g_Piece_isFree C hV hL_x hK_x (Or.inr ⟨_, wd_127⟩) dX4_give_11 ?_
    refine q_ti (v' := q_fl x.2.2.1) (hI2) ?_
    refine lv_if_eq (tgt := 27) C.1 C.2.1 dX4_give_14 (by decide) (fun c14 => ?_) (fun c14 => ?_)
    · have hxf : x.2.2.1 = false := q_fl0.mp c14
      refine q_aload_n (r := some c9) C dX4_give_27 rfl (lv_at hl 1 rfl) ?_
      refine g_Shelf_shelves C hV hL_c9 hK_c9 (Or.inl wd_177) dX4_give_28 ?_
      refine q_tr (v' := some h) (hR8) ?_
      refine q_aload_n (r := some x.1) C dX4_give_31 rfl (lv_at hl 0 rfl) ?_
      refine q_cv hV (q_rN (b := h) (As := [va_rf (some x.1)]) (rest := []) C hV (c_putC l E S c9 n9 f9 tm A B x h ar t ns rows hC hxf htm) wd_154 wd_151 wd_153 wd_2 wd_38 ok_X2_putIn ⟨rfl, rfl, Nat.le_of_ble_eq_true rfl, Nat.le_of_ble_eq_true rfl⟩ (q_rc2 hV hL_h hK_h) rfl hl.1 rfl (q_sm q_1n (Nat.le_of_ble_eq_true rfl)) dX4_give_32 ⟨Nat.le_of_ble_eq_true rfl, Nat.le_of_ble_eq_true rfl⟩) (fun S32 H locs hp32 hV => ?_)
      obtain ⟨ns1, rows1, hC1, hf1⟩ := hp32
      obtain ⟨hL_x, hK_x, -, hI1, -, -, -, -, -⟩ := q_C_at hC1
      refine q_aload_n (r := some x.1) C dX4_give_35 rfl (lv_at hl 0 rfl) ?_
      refine g_Piece_cells C hV hL_x hK_x (Or.inr ⟨_, wd_124⟩) dX4_give_36 ?_
      refine q_ti (v' := nI x.2.1) (hI1) ?_
      refine vx_ret (q_iret (v := nI x.2.1) C hV hr hlk (by decide) (by decide) dX4_give_39 ?_)
      exact hpost _ _ ⟨A, x, B, rfl, hxf, hat, rfl, ⟨ns1, rows1, hC1⟩, hf1⟩
    · have hxf : x.2.2.1 = true := by cases e9 : x.2.2.1 with
        | true => rfl
        | false => exact absurd (q_fl0.mpr e9) c14
      have hpx9 : ∀ A1 x1 B1, A ++ x :: B = A1 ++ x1 :: B1 → a.toInt = 1 + q_sz A1 → x1.2.2.1 = true := by
        intro A1 x1 B1 e1 e2
        have hx1 : 1 ≤ x1.2.1 := hC.1.2.2.2.2.2.2.2 x1 (by rw [e1]; simp)
        have hx0 : 1 ≤ x.2.1 := hC.1.2.2.2.2.2.2.2 x (by simp)
        obtain ⟨-, ex, -⟩ := q_in_uniq (v := q_sz A) e1 (Nat.le_refl _) (by omega) (by omega) (by omega)
        rw [← ex]; exact hxf
      exact q_thN (txt := "no used piece begins there") C hV hl9 hnt hlk hl.1 (by decide) dX4_give_17 dX4_give_20 dX4_give_21 dX4_give_23 dX4_give_26 (by decide) (by decide) (by decide) (by decide) (by decide) (by decide) (hpx _ ⟨rfl, hpx9⟩)
theorem c_Shelf_give (l : Launch) (hl9 : l.stackTraces = false) (E : qE) (S : qS) (c9 h ar t n9 f9 tm : Nat) (P : List q_X) (ns : List Nat) (rows : Nat → List Nat) (hC : q_C S c9 n9 f9 tm P h ar t ns rows) (htm : tm + 1 < 2 ^ 40) (a : Int32) : x_Mi l yX4_give cX4_give 3 { frames := 7, cells := 1, slots := 6, locals := 103 } E [.ref c9, .int a] S (fun r S1 => ∃ A x B, P = A ++ x :: B ∧ x.2.2.1 = false ∧ a.toInt = 1 + q_sz A ∧ r = nI x.2.1 ∧ q_CC S1 c9 n9 f9 (tm + 1) (A ++ (x.1, x.2.1, true, tm) :: B) h ar t ∧ q_fk S S1) q_NE (fun S1 => S1 = S ∧ ∀ A x B, P = A ++ x :: B → a.toInt = 1 + q_sz A → x.2.2.1 = true) 1 6 := c0_Shelf_give l hl9 E S c9 h ar t n9 f9 tm P ns rows hC htm a _ _ (fun _ _ h => h) (fun _ h => h)

set_option maxHeartbeats 4000000 in
set_option maxRecDepth 100000 in
theorem c0_Shelf_join (l : Launch) (hl9 : l.stackTraces = false) (E : qE) (S : qS) (c9 h ar t n9 f9 tm : Nat) (P : List q_X) (ns : List Nat) (rows : Nat → List Nat) (hC : q_C S c9 n9 f9 tm P h ar t ns rows) (htm : tm + 1 < 2 ^ 40) (a : Int32) (post : Int32 → qS → Prop) (px : qS → Prop) (hpost : ∀ r S1, (∃ A x B, P = A ++ x :: B ∧ x.2.2.1 = true ∧ a.toInt = 1 + q_sz A ∧ r = nI (q_sw tm x (q_tk B)).2.1 ∧ q_CC S1 c9 n9 f9 (q_st tm (q_tk B)) (A ++ q_sw tm x (q_tk B) :: q_dr9 B) h ar t ∧ q_fk S S1) → post r S1) (hpx : ∀ S1, (S1 = S ∧ ∀ A x B, P = A ++ x :: B → a.toInt = 1 + q_sz A → x.2.2.1 = false) → px S1) : x_Mi l yX4_join cX4_join 3 { frames := 7, cells := 1, slots := 6, locals := 103 } E [.ref c9, .int a] S (post) q_NE (px) 1 6 := by
  refine x_ofW1 (by decide) (q_1c rfl (q_1c rfl q_1n)) (Nat.le_of_ble_eq_true rfl) (fun p e s m below meth c C hV hr hlk hnm hnt ls hl => ?_)
  have hl : lv_has ls 3 [(0, va_rf (some c9)), (1, .int (a))] := hl
  obtain ⟨hL_c9, hK_c9, hR8, hL_h, hK_h, hJ⟩ := q_C_cl hC
  refine q_aload_n (r := some c9) C dX4_join_0 rfl (lv_at hl 0 rfl) ?_
  refine lv_iload_n C.1 C.2.1 dX4_join_1 rfl (lv_at hl 1 rfl) ?_
  refine q_cq hV (q_rV (b := c9) (As := [.int (a)]) (rest := []) C hV (c_Shelf_beginningAt l E S c9 n9 P hC.1 hC.2.2.2.2.2.2.2.2.2 a) wd_225 wd_222 wd_224 wd_13 wd_37 ok_X4_beginningAt ⟨rfl, rfl, Nat.le_of_ble_eq_true rfl, Nat.le_of_ble_eq_true rfl⟩ (q_rc4 hV hL_c9 hK_c9) rfl hl.1 rfl (q_sm q_1n (Nat.le_of_ble_eq_true rfl)) dX4_join_2 ⟨Nat.le_of_ble_eq_true rfl, Nat.le_of_ble_eq_true rfl⟩) (fun r2 S2 H locs hp2 hV => ?_)
  obtain ⟨eS2, hp2⟩ := hp2
  rw [eS2] at hV
  refine q_astore_n (r := r2) (lv' := [(2, va_rf (r2)), (0, va_rf (some c9)), (1, .int (a))]) C dX4_join_5 rfl hl (by decide) (q_k0 (q_kN 0 rfl (by decide) (by decide) (q_kC 1 rfl (by decide) rfl q_kz))) (fun ls hl => ?_)
  refine q_aload_n (r := r2) C dX4_join_6 rfl (lv_at hl 0 rfl) ?_
  refine q_ifnull (r := r2) (tgt := 17) C dX4_join_7 (by decide) (fun c7 => ?_) (fun x7 c7 => ?_)
  · subst c7
    have hpx9 : ∀ A1 x1 B1, P = A1 ++ x1 :: B1 → a.toInt = 1 + q_sz A1 → x1.2.2.1 = false := by
      intro A1 x1 B1 e1 e2
      rcases hp2 with ⟨-, h9⟩ | ⟨A, x, B, -, h9, -⟩
      · exact absurd e2 (h9 A1 x1 B1 e1)
      · exact absurd h9 (fun z => nomatch z)
    exact q_thN (txt := "no free piece begins there") C hV hl9 hnt hlk hl.1 (by decide) dX4_join_17 dX4_join_20 dX4_join_21 dX4_join_23 dX4_join_26 (by decide) (by decide) (by decide) (by decide) (by decide) (by decide) (hpx _ ⟨rfl, hpx9⟩)
  · subst c7
    rcases hp2 with ⟨h9, -⟩ | ⟨A, x, B, rfl, h9, hat⟩
    · exact absurd h9 (fun z => nomatch z)
    cases h9
    obtain ⟨hL_x, hK_x, hI0, hI1, hI2, -, -, hsz, hn9⟩ := q_C_at hC
    refine q_aload_n (r := some x.1) C dX4_join_10 rfl (lv_at hl 0 rfl) ?_
    refine g_Piece_isFree C hV hL_x hK_x (Or.inr ⟨_, wd_127⟩) dX4_join_11 ?_
    refine q_ti (v' := q_fl x.2.2.1) (hI2) ?_
    refine lv_if_ne (tgt := 27) C.1 C.2.1 dX4_join_14 (by decide) (fun c14 => ?_) (fun c14 => ?_)
    · have c14 : ¬ q_fl x.2.2.1 = 0 := c14
      have hxf : x.2.2.1 = true := by cases e9 : x.2.2.1 with
        | true => rfl
        | false => exact absurd (q_fl0.mpr e9) c14
      refine q_aload_n (r := some c9) C dX4_join_27 rfl (lv_at hl 1 rfl) ?_
      refine q_aload_n (r := some x.1) C dX4_join_28 rfl (lv_at hl 0 rfl) ?_
      refine q_ci hV (q_rV (b := c9) (As := [va_rf (some x.1)]) (rest := []) C hV (c_Shelf_swallow l E S c9 h ar t n9 f9 tm A (q_tk B) (q_dr9 B) x ns rows (by rw [q_tk_dr]; exact hC) hxf (q_tk_free B) (q_dr_head B) htm) wd_197 wd_194 wd_196 wd_8 wd_37 ok_X4_swallowFreeBehind ⟨rfl, rfl, Nat.le_of_ble_eq_true rfl, Nat.le_of_ble_eq_true rfl⟩ (q_rc4 hV hL_c9 hK_c9) rfl hl.1 rfl (q_sm q_1n (Nat.le_of_ble_eq_true rfl)) dX4_join_29 ⟨Nat.le_of_ble_eq_true rfl, Nat.le_of_ble_eq_true rfl⟩) (fun i29 S29 H locs hp29 hV => ?_)
      obtain ⟨-, ⟨ns1, rows1, hC1⟩, hf1⟩ := hp29
      obtain ⟨hL_x, hK_x, -, hI1, -, -, -, -, -⟩ := q_C_at hC1
      rw [q_sw_1] at hL_x hK_x hI1
      refine lv_pop C.1 C.2.1 dX4_join_32 rfl ?_
      refine q_aload_n (r := some x.1) C dX4_join_33 rfl (lv_at hl 0 rfl) ?_
      refine g_Piece_cells C hV hL_x hK_x (Or.inr ⟨_, wd_124⟩) dX4_join_34 ?_
      refine q_ti (v' := nI (q_sw tm x (q_tk B)).2.1) (hI1) ?_
      refine vx_ret (q_iret (v := nI (q_sw tm x (q_tk B)).2.1) C hV hr hlk (by decide) (by decide) dX4_join_37 ?_)
      exact hpost _ _ ⟨A, x, B, rfl, hxf, hat, rfl, ⟨ns1, rows1, hC1⟩, hf1⟩
    · have c14 : q_fl x.2.2.1 = 0 := c14
      have hxf : x.2.2.1 = false := q_fl0.mp c14
      have hpx9 : ∀ A1 x1 B1, A ++ x :: B = A1 ++ x1 :: B1 → a.toInt = 1 + q_sz A1 → x1.2.2.1 = false := by
        intro A1 x1 B1 e1 e2
        have hx1 : 1 ≤ x1.2.1 := hC.1.2.2.2.2.2.2.2 x1 (by rw [e1]; simp)
        have hx0 : 1 ≤ x.2.1 := hC.1.2.2.2.2.2.2.2 x (by simp)
        obtain ⟨-, ex, -⟩ := q_in_uniq (v := q_sz A) e1 (Nat.le_refl _) (by omega) (by omega) (by omega)
        rw [← ex]; exact hxf
      exact q_thN (txt := "no free piece begins there") C hV hl9 hnt hlk hl.1 (by decide) dX4_join_17 dX4_join_20 dX4_join_21 dX4_join_23 dX4_join_26 (by decide) (by decide) (by decide) (by decide) (by decide) (by decide) (hpx _ ⟨rfl, hpx9⟩)
theorem c_Shelf_join (l : Launch) (hl9 : l.stackTraces = false) (E : qE) (S : qS) (c9 h ar t n9 f9 tm : Nat) (P : List q_X) (ns : List Nat) (rows : Nat → List Nat) (hC : q_C S c9 n9 f9 tm P h ar t ns rows) (htm : tm + 1 < 2 ^ 40) (a : Int32) : x_Mi l yX4_join cX4_join 3 { frames := 7, cells := 1, slots := 6, locals := 103 } E [.ref c9, .int a] S (fun r S1 => ∃ A x B, P = A ++ x :: B ∧ x.2.2.1 = true ∧ a.toInt = 1 + q_sz A ∧ r = nI (q_sw tm x (q_tk B)).2.1 ∧ q_CC S1 c9 n9 f9 (q_st tm (q_tk B)) (A ++ q_sw tm x (q_tk B) :: q_dr9 B) h ar t ∧ q_fk S S1) q_NE (fun S1 => S1 = S ∧ ∀ A x B, P = A ++ x :: B → a.toInt = 1 + q_sz A → x.2.2.1 = false) 1 6 := c0_Shelf_join l hl9 E S c9 h ar t n9 f9 tm P ns rows hC htm a _ _ (fun _ _ h => h) (fun _ h => h)
end
section
/-! THE K-TH LATEST of a size, over the values -/
def v_later (z t : Nat) (v : Nat × Bool × Nat) : Nat := if v.2.1 = true ∧ v.1 = z ∧ t < v.2.2 then 1 else 0
def v_kth (V : v_V) (z k : Nat) (r : Int32) : Prop := (r = 0 ∧ ∀ A x B, V = A ++ x :: B → x.2.1 = true → x.1 = z → q_cn (v_later z x.2.2) V ≠ k) ∨ ∃ A x B, V = A ++ x :: B ∧ x.2.1 = true ∧ x.1 = z ∧ q_cn (v_later z x.2.2) V = k ∧ r = nI (1 + v_sz A)
def v_free (V : v_V) (a k : Int) (r : Int32) : Prop := (a < 3 ∧ r = 0) ∨ (3 ≤ a ∧ v_kth V a.toNat k.toNat r)
def q_ca (L : List Nat) : List q_X → Nat
  | [] => 0
  | y :: P => (if y.1 ∈ L then 1 else 0) + q_ca L P
theorem q_ca_congr {L L' : List Nat} : ∀ {P : List q_X}, (∀ y ∈ P, y.1 ∈ L ↔ y.1 ∈ L') → q_ca L P = q_ca L' P := by
  intro P
  induction P with
  | nil => intro _; rfl
  | cons y P ih =>
    intro h
    have h1 := h y List.mem_cons_self
    simp only [q_ca, h1, ih (fun x hx => h x (List.mem_cons_of_mem _ hx))]
theorem q_ca_len : ∀ {P : List q_X} {L : List Nat}, (q_ad P).Nodup → L.Nodup → (∀ a ∈ L, ∃ y ∈ P, y.1 = a) → q_ca L P = L.length := by
  intro P
  induction P with
  | nil =>
    intro L _ _ h
    cases L with
    | nil => rfl
    | cons a L => obtain ⟨y, hy, -⟩ := h a List.mem_cons_self; cases hy
  | cons y P ih =>
    intro L hP hL h
    have hP' : y.1 ∉ q_ad P ∧ (q_ad P).Nodup := List.nodup_cons.mp hP
    by_cases hy : y.1 ∈ L
    · have e1 : q_ca L P = q_ca (L.erase y.1) P := q_ca_congr (fun x hx => by
        have hne : x.1 ≠ y.1 := fun e => hP'.1 (by rw [← e]; exact List.mem_map.mpr ⟨x, hx, rfl⟩)
        exact (List.mem_erase_of_ne hne).symm)
      have e2 := ih (L := L.erase y.1) hP'.2 (hL.erase _) (fun a ha => by
        obtain ⟨x, hx, e⟩ := h a (List.mem_of_mem_erase ha)
        rcases List.mem_cons.mp hx with rfl | hx
        · rw [← e] at ha; exact absurd ha (hL.not_mem_erase)
        · exact ⟨x, hx, e⟩)
      simp only [q_ca, if_pos hy, e1, e2, List.length_erase_of_mem hy]
      have : 0 < L.length := List.length_pos_of_mem hy
      omega
    · simp only [q_ca, if_neg hy]
      rw [ih hP'.2 hL (fun a ha => by
        obtain ⟨x, hx, e⟩ := h a ha
        rcases List.mem_cons.mp hx with rfl | hx
        · rw [e] at hy; exact absurd ha hy
        · exact ⟨x, hx, e⟩)]
      omega
theorem q_cn_ca {f : Nat × Bool × Nat → Nat} {L : List Nat} : ∀ {P : List q_X}, (∀ y ∈ P, f y.2 = if y.1 ∈ L then 1 else 0) → q_cn f (q_vl P) = q_ca L P := by
  intro P
  induction P with
  | nil => intro _; rfl
  | cons y P ih =>
    intro h
    show f y.2 + q_cn f (q_vl P) = _
    rw [h y List.mem_cons_self, ih (fun x hx => h x (List.mem_cons_of_mem _ hx))]; rfl
theorem q_rank {S : qS} {c n fails tm : Nat} {P : List q_X} {h ar t : Nat} {ns : List Nat} {rows : Nat → List Nat} (hC : q_C S c n fails tm P h ar t ns rows) {z : Nat} {x : q_X} {L U : List Nat} (hx : x ∈ P) (hf : x.2.2.1 = true) (hsz : x.2.1 = z) (hr : rows z = L ++ x.1 :: U) : q_cn (v_later z x.2.2.2) (q_vl P) = L.length := by
  have c7 := hC.2.2.2.2.2.2.1
  have hnd := q_line_nd hC.1
  have hrn : (rows z).Nodup := q_rws_nd c7 z
  have hpw := c7.2 z
  rw [hr] at hrn hpw
  have hLn : L.Nodup := (List.nodup_append.mp hrn).1
  have hmem : ∀ a ∈ rows z, 3 ≤ z ∧ ∃ y ∈ P, y.1 = a ∧ y.2.1 = z ∧ y.2.2.1 = true := fun a ha => (c7.1 z a).mp ha
  have hz3 : 3 ≤ z := (hmem x.1 (by rw [hr]; simp)).1
  rw [← q_ca_len hnd hLn (fun a ha => by obtain ⟨-, y, hy, e, -⟩ := hmem a (by rw [hr]; simp [ha]); exact ⟨y, hy, e⟩)]
  apply q_cn_ca
  intro y hy
  have hp2 := List.pairwise_append.mp hpw
  by_cases hyL : y.1 ∈ L
  · rw [if_pos hyL]
    obtain ⟨-, y', hy', e1, e2, e3⟩ := hmem y.1 (by rw [hr]; simp [hyL])
    have e := q_nd_eq hnd hy' hy e1
    subst e
    have h9 := hp2.2.2 y'.1 hyL x.1 List.mem_cons_self
    rw [q_C_J hC hy e3, q_C_J hC hx hf] at h9
    unfold v_later
    rw [if_pos ⟨e3, e2, by omega⟩]
  · rw [if_neg hyL]
    unfold v_later
    rw [if_neg]
    rintro ⟨e1, e2, e3⟩
    have hin : y.1 ∈ rows z := (c7.1 z y.1).mpr ⟨hz3, y, hy, rfl, e2, e1⟩
    rw [hr] at hin
    rcases List.mem_append.mp hin with h1 | h1
    · exact hyL h1
    · rcases List.mem_cons.mp h1 with h1 | h1
      · rw [q_nd_eq hnd hy hx h1] at e3; omega
      · have h9 := (List.pairwise_cons.mp hp2.2.1).1 y.1 h1
        rw [q_C_J hC hy e1, q_C_J hC hx hf] at h9
        omega
theorem q_kth_some {S : qS} {c n fails tm : Nat} {P : List q_X} {h ar t : Nat} {ns : List Nat} {rows : Nat → List Nat} (hC : q_C S c n fails tm P h ar t ns rows) {z k a : Nat} (hk : (rows z)[k]? = some a) : ∃ A x B, P = A ++ x :: B ∧ x.1 = a ∧ x.2.2.1 = true ∧ x.2.1 = z ∧ q_cn (v_later z x.2.2.2) (q_vl P) = k := by
  obtain ⟨hlt, hget⟩ := List.getElem?_eq_some_iff.mp hk
  obtain ⟨-, x, hx, e1, e2, e3⟩ := (hC.2.2.2.2.2.2.1.1 z a).mp (List.mem_of_getElem? hk)
  obtain ⟨A, B, hP⟩ := List.append_of_mem hx
  refine ⟨A, x, B, hP, e1, e3, e2, ?_⟩
  have hs : rows z = (rows z).take k ++ x.1 :: (rows z).drop (k + 1) := by
    rw [e1, ← hget, ← List.drop_eq_getElem_cons hlt, List.take_append_drop]
  rw [q_rank hC hx e3 e2 hs, List.length_take]
  omega
theorem q_kth_none {S : qS} {c n fails tm : Nat} {P : List q_X} {h ar t : Nat} {ns : List Nat} {rows : Nat → List Nat} (hC : q_C S c n fails tm P h ar t ns rows) {z k : Nat} (hz : 3 ≤ z) (hk : (rows z)[k]? = none) : ∀ A x B, q_vl P = A ++ x :: B → x.2.1 = true → x.1 = z → q_cn (v_later z x.2.2) (q_vl P) ≠ k := by
  intro A x B hV hf hs e
  obtain ⟨A1, x1, B1, rfl, -, rfl, -⟩ := q_vl_split hV
  have hx : x1 ∈ A1 ++ x1 :: B1 := by simp
  have hin : x1.1 ∈ rows z := (hC.2.2.2.2.2.2.1.1 z x1.1).mpr ⟨hz, x1, hx, rfl, hs, hf⟩
  obtain ⟨L, U, hr⟩ := List.append_of_mem hin
  rw [q_rank hC hx hf hs hr] at e
  rw [hr, ← e] at hk
  simp at hk
/-! the counts -/
def v_cnt (w : Int) (V : v_V) (n f : Nat) : Nat := if w = 0 then q_cn q_f0 V else if w = 1 then q_cn q_f1 V else if w = 2 then q_cn q_f2 V else if w = 3 then q_cn q_f3 V else if w = 4 then q_cn q_f4 V else if w = 5 then q_mx V else if w = 6 then f else n
end
section
set_option maxHeartbeats 4000000 in
set_option maxRecDepth 100000 in
theorem c0_Shelf_free (l : Launch) (hl9 : l.stackTraces = false) (E : qE) (S : qS) (c9 h ar t n9 f9 tm : Nat) (P : List q_X) (ns : List Nat) (rows : Nat → List Nat) (hC : q_C S c9 n9 f9 tm P h ar t ns rows) (a k : Int32) (post : Int32 → qS → Prop) (px : qS → Prop) (hpost : ∀ r S1, (S1 = S ∧ 0 ≤ k.toInt ∧ v_free (q_vl P) a.toInt k.toInt r) → post r S1) (hpx : ∀ S1, (S1 = S ∧ k.toInt < 0) → px S1) : x_Mi l yX4_free cX4_free 5 { frames := 6, cells := 1, slots := 6, locals := 82 } E [.ref c9, .int a, .int k] S (post) q_IA (px) 1 6 := by
  refine x_ofW1 (by decide) (q_1c rfl (q_1c rfl (q_1c rfl q_1n))) (Nat.le_of_ble_eq_true rfl) (fun p e s m below meth c C hV hr hlk hnm hnt ls hl => ?_)
  have hl : lv_has ls 5 [(0, va_rf (some c9)), (1, .int (a)), (2, .int (k))] := hl
  obtain ⟨hL_c9, hK_c9, hR8, hL_h, hK_h, hJ⟩ := q_C_cl hC
  refine lv_iload_n C.1 C.2.1 dX4_free_0 rfl (lv_at hl 2 rfl) ?_
  refine lv_if_ge (tgt := 14) C.1 C.2.1 dX4_free_1 (by decide) (fun c1 => ?_) (fun c1 => ?_)
  · have hk0 : 0 ≤ k.toInt := by have := q_i_le.mp c1; rw [q_i0] at this; exact this
    obtain ⟨hk1, hk2⟩ := q_nat hk0
    refine q_aload_n (r := some c9) C dX4_free_14 rfl (lv_at hl 0 rfl) ?_
    refine g_Shelf_shelves C hV hL_c9 hK_c9 (Or.inl wd_177) dX4_free_15 ?_
    refine q_tr (v' := some h) (hR8) ?_
    refine lv_iload_n C.1 C.2.1 dX4_free_18 rfl (lv_at hl 1 rfl) ?_
    refine q_cq hV (q_rN (b := h) (As := [.int (a)]) (rest := []) C hV (c_Shelves_rowOf l E S h ar t ns rows hC.2.2.2.1 a) wd_205 wd_400 wd_204 wd_10 wd_38 ok_X2_rowOf ⟨rfl, rfl, Nat.le_of_ble_eq_true rfl, Nat.le_of_ble_eq_true rfl⟩ (q_rc2 hV hL_h hK_h) rfl hl.1 rfl (q_sm q_1n (Nat.le_of_ble_eq_true rfl)) dX4_free_19 ⟨Nat.le_of_ble_eq_true rfl, Nat.le_of_ble_eq_true rfl⟩) (fun r19 S19 H locs hp19 hV => ?_)
    obtain ⟨eS19, hp19⟩ := hp19
    rw [eS19] at hV
    refine q_astore_n (r := r19) (lv' := [(3, va_rf (r19)), (0, va_rf (some c9)), (1, .int (a)), (2, .int (k))]) C dX4_free_22 rfl hl (by decide) (q_k0 (q_kN 0 rfl (by decide) (by decide) (q_kN 1 rfl (by decide) (by decide) (q_kC 2 rfl (by decide) rfl q_kz)))) (fun ls hl => ?_)
    refine q_aload_n (r := r19) C dX4_free_23 rfl (lv_at hl 0 rfl) ?_
    refine q_ifnonnull (r := r19) (tgt := 31) C dX4_free_24 (by decide) (fun x24 c24 => ?_) (fun c24 => ?_)
    · subst c24
      obtain ⟨ha3, hrow⟩ : 3 ≤ a.toInt ∧ q_row S rows a.toInt.toNat x24 := by
        rcases hp19 with ⟨h9, -⟩ | ⟨b, h9, h3, hrow, -⟩
        · exact absurd h9 (fun z => nomatch z)
        · cases h9; exact ⟨h3, hrow⟩
      have hL_x24 := hrow.1
      have hK_x24 := hrow.2.1
      refine q_aload_n (r := some x24) C dX4_free_31 rfl (lv_at hl 0 rfl) ?_
      refine lv_iload_n C.1 C.2.1 dX4_free_32 rfl (lv_at hl 3 rfl) ?_
      refine q_ti (v' := nI k.toInt.toNat) hk1 ?_
      refine q_cq hV (q_rN (b := x24) (As := [.int (nI k.toInt.toNat)]) (rest := []) C hV (c_Row_kthLatest l E S x24 k.toInt.toNat (rows a.toInt.toNat) hL_x24 hK_x24 hk2 hrow.2.2.2.2 (fun b hb => ⟨(hC.2.2.2.1.2.2.2.2.2.2 _ b hb).1, (hC.2.2.2.1.2.2.2.2.2.2 _ b hb).2.1⟩)) wd_404 wd_401 wd_403 wd_21 wd_39 ok_X1_kthLatest ⟨rfl, rfl, Nat.le_of_ble_eq_true rfl, Nat.le_of_ble_eq_true rfl⟩ (q_rc1 hV hL_x24 hK_x24) rfl hl.1 rfl (q_sm q_1n (Nat.le_of_ble_eq_true rfl)) dX4_free_33 ⟨Nat.le_of_ble_eq_true rfl, Nat.le_of_ble_eq_true rfl⟩) (fun r33 S33 H locs hp33 hV => ?_)
      obtain ⟨eS33, hp33⟩ := hp33
      rw [eS33] at hV
      refine q_astore (r := r33) (lv' := [(4, va_rf (r33)), (3, va_rf (some x24)), (0, va_rf (some c9)), (1, .int (a)), (2, .int (k))]) C dX4_free_36 hl (by decide) (q_k0 (q_kC 0 rfl (by decide) (q_cat _) (q_kN 1 rfl (by decide) (by decide) (q_kN 2 rfl (by decide) (by decide) (q_kN 3 rfl (by decide) (by decide) q_kz))))) (fun ls hl => ?_)
      refine q_aload (r := r33) C dX4_free_38 (lv_at hl 0 rfl) ?_
      refine q_ifnonnull (r := r33) (tgt := 47) C dX4_free_40 (by decide) (fun x40 c40 => ?_) (fun c40 => ?_)
      · subst c40
        obtain ⟨A, x, B, rfl, ex, efr, esz, hcn⟩ := q_kth_some hC hp33.symm
        subst ex
        obtain ⟨hL_x, hK_x, hI0, -, -, -, -, -, -⟩ := q_C_at hC
        refine q_aload (r := some x.1) C dX4_free_47 (lv_at hl 0 rfl) ?_
        refine g_Piece_at C hV hL_x hK_x (Or.inr ⟨_, wd_122⟩) dX4_free_49 ?_
        refine q_ti (v' := nI (1 + q_sz A)) (hI0) ?_
        refine vx_ret (q_iret (v := nI (1 + q_sz A)) C hV hr hlk (by decide) (by decide) dX4_free_52 ?_)
        exact hpost _ _ ⟨rfl, hk0, Or.inr ⟨ha3, Or.inr ⟨q_vl A, x.2, q_vl B, q_vl_app A B x, efr, esz, hcn, by rw [v_sz_vl]⟩⟩⟩
      · subst c40
        refine lv_iconst (v := 0) C.1 C.2.1 dX4_free_43 (by decide) ?_
        refine lv_goto (tgt := 52) C.1 C.2.1 dX4_free_44 (by decide) ?_
        refine vx_ret (q_iret (v := 0) C hV hr hlk (by decide) (by decide) dX4_free_52 ?_)
        exact hpost _ _ ⟨rfl, hk0, Or.inr ⟨ha3, Or.inl ⟨rfl, q_kth_none hC (by omega) hp33.symm⟩⟩⟩
    · subst c24
      refine lv_null C.1 C.2.1 dX4_free_27 ?_
      refine lv_goto (tgt := 36) C.1 C.2.1 dX4_free_28 (by decide) ?_
      refine q_astore (r := none) (lv' := [(4, va_rf (none)), (3, va_rf (none)), (0, va_rf (some c9)), (1, .int (a)), (2, .int (k))]) C dX4_free_36 hl (by decide) (q_k0 (q_kC 0 rfl (by decide) (q_cat _) (q_kN 1 rfl (by decide) (by decide) (q_kN 2 rfl (by decide) (by decide) (q_kN 3 rfl (by decide) (by decide) q_kz))))) (fun ls hl => ?_)
      refine q_aload (r := none) C dX4_free_38 (lv_at hl 0 rfl) ?_
      refine q_ifnonnull (r := none) (tgt := 47) C dX4_free_40 (by decide) (fun _ h => nomatch h) (fun _ => ?_)
      refine lv_iconst (v := 0) C.1 C.2.1 dX4_free_43 (by decide) ?_
      refine lv_goto (tgt := 52) C.1 C.2.1 dX4_free_44 (by decide) ?_
      refine vx_ret (q_iret (v := 0) C hV hr hlk (by decide) (by decide) dX4_free_52 ?_)
      refine hpost _ _ ⟨rfl, hk0, ?_⟩
      rcases hp19 with ⟨-, h9⟩ | ⟨b, h9, -⟩
      · rcases h9 with h9 | h9
        · exact Or.inl ⟨h9, rfl⟩
        · rcases Int.lt_or_le a.toInt 3 with h3 | h3
          · exact Or.inl ⟨h3, rfl⟩
          · exact Or.inr ⟨h3, Or.inl ⟨rfl, q_kth_none hC (by omega) (by rw [h9]; rfl)⟩⟩
      · exact absurd h9 (fun z => nomatch z)
  · have hk0 : k.toInt < 0 := by
      rcases Int.lt_or_le k.toInt 0 with h | h
      · exact h
      · exact absurd (q_i_le.mpr (by rw [q_i0]; exact h)) c1
    exact q_thI (txt := "k is below 0") C hV hl9 hnt hlk hl.1 (by decide) dX4_free_4 dX4_free_7 dX4_free_8 dX4_free_10 dX4_free_13 (by decide) (by decide) (by decide) (by decide) (by decide) (by decide) (hpx _ ⟨rfl, hk0⟩)
theorem c_Shelf_free (l : Launch) (hl9 : l.stackTraces = false) (E : qE) (S : qS) (c9 h ar t n9 f9 tm : Nat) (P : List q_X) (ns : List Nat) (rows : Nat → List Nat) (hC : q_C S c9 n9 f9 tm P h ar t ns rows) (a k : Int32) : x_Mi l yX4_free cX4_free 5 { frames := 6, cells := 1, slots := 6, locals := 82 } E [.ref c9, .int a, .int k] S (fun r S1 => S1 = S ∧ 0 ≤ k.toInt ∧ v_free (q_vl P) a.toInt k.toInt r) q_IA (fun S1 => S1 = S ∧ k.toInt < 0) 1 6 := c0_Shelf_free l hl9 E S c9 h ar t n9 f9 tm P ns rows hC a k _ _ (fun _ _ h => h) (fun _ h => h)

set_option maxHeartbeats 4000000 in
set_option maxRecDepth 100000 in
theorem c0_Shelf_count (l : Launch) (hl9 : l.stackTraces = false) (E : qE) (S : qS) (c9 h ar t n9 f9 tm : Nat) (P : List q_X) (ns : List Nat) (rows : Nat → List Nat) (hC : q_C S c9 n9 f9 tm P h ar t ns rows) (a : Int32) (post : Int32 → qS → Prop) (px : qS → Prop) (hpost : ∀ r S1, (S1 = S ∧ (0 ≤ a.toInt ∧ a.toInt ≤ 7) ∧ r = nI (v_cnt a.toInt (q_vl P) n9 f9)) → post r S1) (hpx : ∀ S1, (S1 = S ∧ ¬ (0 ≤ a.toInt ∧ a.toInt ≤ 7)) → px S1) : x_Mi l yX4_count cX4_count 2 { frames := 6, cells := 1, slots := 6, locals := 82 } E [.ref c9, .int a] S (post) q_IA (px) 1 6 := by
  refine x_ofW1 (by decide) (q_1c rfl (q_1c rfl q_1n)) (Nat.le_of_ble_eq_true rfl) (fun p e s m below meth c C hV hr hlk hnm hnt ls hl => ?_)
  have hl : lv_has ls 2 [(0, va_rf (some c9)), (1, .int (a))] := hl
  obtain ⟨hL_c9, hK_c9, hR8, hL_h, hK_h, hJ⟩ := q_C_cl hC
  refine lv_iload_n C.1 C.2.1 dX4_count_0 rfl (lv_at hl 1 rfl) ?_
  by_cases hb : 0 ≤ a.toInt ∧ a.toInt ≤ 7
  · have h8 : a.toInt = 0 ∨ a.toInt = 1 ∨ a.toInt = 2 ∨ a.toInt = 3 ∨ a.toInt = 4 ∨ a.toInt = 5 ∨ a.toInt = 6 ∨ a.toInt = 7 := by omega
    rcases h8 with hw | hw | hw | hw | hw | hw | hw | hw
    · refine lv_tableIn (off := 47) (tgt := 48) C.1 C.2.1 dX4_count_1 (by omega) (by omega) (by rw [hw]; rfl) (by decide) ?_
      refine q_aload_n (r := some c9) C dX4_count_48 rfl (lv_at hl 0 rfl) ?_
      refine q_ci hV (q_rV (b := c9) (As := []) (rest := []) C hV (c_Shelf_freeCells l E S c9 n9 P hC.1) wd_415 wd_412 wd_414 wd_22 wd_37 ok_X4_freeCells ⟨rfl, rfl, Nat.le_of_ble_eq_true rfl, Nat.le_of_ble_eq_true rfl⟩ (q_rc4 hV hL_c9 hK_c9) rfl hl.1 rfl (q_sm q_1n (Nat.le_of_ble_eq_true rfl)) dX4_count_49 ⟨Nat.le_of_ble_eq_true rfl, Nat.le_of_ble_eq_true rfl⟩) (fun i49 S49 H locs hp49 hV => ?_)
      obtain ⟨eS49, hp49⟩ := hp49
      rw [eS49] at hV
      refine vx_ret (q_iret (v := i49) C hV hr hlk (by decide) (by decide) dX4_count_52 ?_)
      refine hpost _ _ ⟨rfl, hb, ?_⟩
      rw [v_cnt, hw]
      exact hp49
    · refine lv_tableIn (off := 52) (tgt := 53) C.1 C.2.1 dX4_count_1 (by omega) (by omega) (by rw [hw]; rfl) (by decide) ?_
      refine q_aload_n (r := some c9) C dX4_count_53 rfl (lv_at hl 0 rfl) ?_
      refine q_ci hV (q_rV (b := c9) (As := []) (rest := []) C hV (c_Shelf_crumbCells l E S c9 n9 P hC.1) wd_419 wd_416 wd_418 wd_23 wd_37 ok_X4_crumbCells ⟨rfl, rfl, Nat.le_of_ble_eq_true rfl, Nat.le_of_ble_eq_true rfl⟩ (q_rc4 hV hL_c9 hK_c9) rfl hl.1 rfl (q_sm q_1n (Nat.le_of_ble_eq_true rfl)) dX4_count_54 ⟨Nat.le_of_ble_eq_true rfl, Nat.le_of_ble_eq_true rfl⟩) (fun i54 S54 H locs hp54 hV => ?_)
      obtain ⟨eS54, hp54⟩ := hp54
      rw [eS54] at hV
      refine vx_ret (q_iret (v := i54) C hV hr hlk (by decide) (by decide) dX4_count_57 ?_)
      refine hpost _ _ ⟨rfl, hb, ?_⟩
      rw [v_cnt, hw]
      exact hp54
    · refine lv_tableIn (off := 57) (tgt := 58) C.1 C.2.1 dX4_count_1 (by omega) (by omega) (by rw [hw]; rfl) (by decide) ?_
      refine q_aload_n (r := some c9) C dX4_count_58 rfl (lv_at hl 0 rfl) ?_
      refine q_ci hV (q_rV (b := c9) (As := []) (rest := []) C hV (c_Shelf_usedPieces l E S c9 n9 P hC.1) wd_427 wd_424 wd_426 wd_25 wd_37 ok_X4_usedPieces ⟨rfl, rfl, Nat.le_of_ble_eq_true rfl, Nat.le_of_ble_eq_true rfl⟩ (q_rc4 hV hL_c9 hK_c9) rfl hl.1 rfl (q_sm q_1n (Nat.le_of_ble_eq_true rfl)) dX4_count_59 ⟨Nat.le_of_ble_eq_true rfl, Nat.le_of_ble_eq_true rfl⟩) (fun i59 S59 H locs hp59 hV => ?_)
      obtain ⟨eS59, hp59⟩ := hp59
      rw [eS59] at hV
      refine vx_ret (q_iret (v := i59) C hV hr hlk (by decide) (by decide) dX4_count_62 ?_)
      refine hpost _ _ ⟨rfl, hb, ?_⟩
      rw [v_cnt, hw]
      exact hp59
    · refine lv_tableIn (off := 62) (tgt := 63) C.1 C.2.1 dX4_count_1 (by omega) (by omega) (by rw [hw]; rfl) (by decide) ?_
      refine q_aload_n (r := some c9) C dX4_count_63 rfl (lv_at hl 0 rfl) ?_
      refine q_ci hV (q_rV (b := c9) (As := []) (rest := []) C hV (c_Shelf_shelvedPieces l E S c9 n9 P hC.1) wd_431 wd_428 wd_430 wd_26 wd_37 ok_X4_shelvedPieces ⟨rfl, rfl, Nat.le_of_ble_eq_true rfl, Nat.le_of_ble_eq_true rfl⟩ (q_rc4 hV hL_c9 hK_c9) rfl hl.1 rfl (q_sm q_1n (Nat.le_of_ble_eq_true rfl)) dX4_count_64 ⟨Nat.le_of_ble_eq_true rfl, Nat.le_of_ble_eq_true rfl⟩) (fun i64 S64 H locs hp64 hV => ?_)
      obtain ⟨eS64, hp64⟩ := hp64
      rw [eS64] at hV
      refine vx_ret (q_iret (v := i64) C hV hr hlk (by decide) (by decide) dX4_count_67 ?_)
      refine hpost _ _ ⟨rfl, hb, ?_⟩
      rw [v_cnt, hw]
      exact hp64
    · refine lv_tableIn (off := 67) (tgt := 68) C.1 C.2.1 dX4_count_1 (by omega) (by omega) (by rw [hw]; rfl) (by decide) ?_
      refine q_aload_n (r := some c9) C dX4_count_68 rfl (lv_at hl 0 rfl) ?_
      refine q_ci hV (q_rV (b := c9) (As := []) (rest := []) C hV (c_Shelf_crumbs l E S c9 n9 P hC.1) wd_435 wd_432 wd_434 wd_27 wd_37 ok_X4_crumbs ⟨rfl, rfl, Nat.le_of_ble_eq_true rfl, Nat.le_of_ble_eq_true rfl⟩ (q_rc4 hV hL_c9 hK_c9) rfl hl.1 rfl (q_sm q_1n (Nat.le_of_ble_eq_true rfl)) dX4_count_69 ⟨Nat.le_of_ble_eq_true rfl, Nat.le_of_ble_eq_true rfl⟩) (fun i69 S69 H locs hp69 hV => ?_)
      obtain ⟨eS69, hp69⟩ := hp69
      rw [eS69] at hV
      refine vx_ret (q_iret (v := i69) C hV hr hlk (by decide) (by decide) dX4_count_72 ?_)
      refine hpost _ _ ⟨rfl, hb, ?_⟩
      rw [v_cnt, hw]
      exact hp69
    · refine lv_tableIn (off := 72) (tgt := 73) C.1 C.2.1 dX4_count_1 (by omega) (by omega) (by rw [hw]; rfl) (by decide) ?_
      refine q_aload_n (r := some c9) C dX4_count_73 rfl (lv_at hl 0 rfl) ?_
      refine q_ci hV (q_rV (b := c9) (As := []) (rest := []) C hV (c_Shelf_greatestFree l E S c9 n9 P hC.1) wd_439 wd_436 wd_438 wd_28 wd_37 ok_X4_greatestFree ⟨rfl, rfl, Nat.le_of_ble_eq_true rfl, Nat.le_of_ble_eq_true rfl⟩ (q_rc4 hV hL_c9 hK_c9) rfl hl.1 rfl (q_sm q_1n (Nat.le_of_ble_eq_true rfl)) dX4_count_74 ⟨Nat.le_of_ble_eq_true rfl, Nat.le_of_ble_eq_true rfl⟩) (fun i74 S74 H locs hp74 hV => ?_)
      obtain ⟨eS74, hp74⟩ := hp74
      rw [eS74] at hV
      refine vx_ret (q_iret (v := i74) C hV hr hlk (by decide) (by decide) dX4_count_77 ?_)
      refine hpost _ _ ⟨rfl, hb, ?_⟩
      rw [v_cnt, hw]
      exact hp74
    · refine lv_tableIn (off := 77) (tgt := 78) C.1 C.2.1 dX4_count_1 (by omega) (by omega) (by rw [hw]; rfl) (by decide) ?_
      refine q_aload_n (r := some c9) C dX4_count_78 rfl (lv_at hl 0 rfl) ?_
      refine g_Shelf_misses C hV hL_c9 hK_c9 (Or.inl wd_180) dX4_count_79 ?_
      refine q_ti (v' := nI f9) (hC.2.2.1) ?_
      refine vx_ret (q_iret (v := nI f9) C hV hr hlk (by decide) (by decide) dX4_count_82 ?_)
      refine hpost _ _ ⟨rfl, hb, ?_⟩
      rw [v_cnt, hw]
      rfl
    · refine lv_tableIn (off := 82) (tgt := 83) C.1 C.2.1 dX4_count_1 (by omega) (by omega) (by rw [hw]; rfl) (by decide) ?_
      refine q_aload_n (r := some c9) C dX4_count_83 rfl (lv_at hl 0 rfl) ?_
      refine g_Shelf_cellCount C hV hL_c9 hK_c9 (Or.inl wd_179) dX4_count_84 ?_
      refine q_ti (v' := nI n9) (hC.1.2.2.1) ?_
      refine vx_ret (q_iret (v := nI n9) C hV hr hlk (by decide) (by decide) dX4_count_87 ?_)
      refine hpost _ _ ⟨rfl, hb, ?_⟩
      rw [v_cnt, hw]
      rfl
  · refine lv_tableOut (tgt := 88) C.1 C.2.1 dX4_count_1 (by omega) (by decide) ?_
    exact q_thI (txt := "what is not 0 .. 7") C hV hl9 hnt hlk hl.1 (by decide) dX4_count_88 dX4_count_91 dX4_count_92 dX4_count_94 dX4_count_97 (by decide) (by decide) (by decide) (by decide) (by decide) (by decide) (hpx _ ⟨rfl, hb⟩)
theorem c_Shelf_count (l : Launch) (hl9 : l.stackTraces = false) (E : qE) (S : qS) (c9 h ar t n9 f9 tm : Nat) (P : List q_X) (ns : List Nat) (rows : Nat → List Nat) (hC : q_C S c9 n9 f9 tm P h ar t ns rows) (a : Int32) : x_Mi l yX4_count cX4_count 2 { frames := 6, cells := 1, slots := 6, locals := 82 } E [.ref c9, .int a] S (fun r S1 => S1 = S ∧ (0 ≤ a.toInt ∧ a.toInt ≤ 7) ∧ r = nI (v_cnt a.toInt (q_vl P) n9 f9)) q_IA (fun S1 => S1 = S ∧ ¬ (0 ≤ a.toInt ∧ a.toInt ≤ 7)) 1 6 := c0_Shelf_count l hl9 E S c9 h ar t n9 f9 tm P ns rows hC a _ _ (fun _ _ h => h) (fun _ h => h)
end
section
/-! FAULTS: the rows one after another -/
def q_l1 (rows : Nat → List Nat) : Nat → List Nat
  | 0 => []
  | i + 1 => q_l1 rows i ++ rows (i + 3)
def q_l2 (rows : Nat → List Nat) (zf : Nat → Nat) : List Nat → List Nat
  | [] => []
  | r :: ns => rows (zf r) ++ q_l2 rows zf ns
set_option maxHeartbeats 4000000 in
set_option maxRecDepth 100000 in
theorem c0_Shelves_piecesIn (l : Launch) (E : qE) (S : qS) (r9 m9 : Nat) (l9 : List Nat) (hL_r9 : r9 ∈ S.L) (hK_r9 : S.K r9 = 1) (hc : q_ch (S.R 1) (S.R 2 r9) l9) (hok : ∀ a ∈ l9, a ∈ S.L ∧ S.K a = 0) (hm : l9.length ≤ m9) (hm2 : m9 < 2 ^ 31) (post : Int32 → qS → Prop) (hpost : ∀ r S1, (S1 = S ∧ r = nI l9.length) → post r S1) : q_Mi l yX2_piecesIn cX2_piecesIn 4 .int { frames := 0, cells := 0, slots := 0, locals := 0 } E [.ref r9, .int (nI m9)] S (post) 0 0 := by
  refine q_ofW1 (by decide) (q_1c rfl (q_1c rfl q_1n)) (Nat.le_of_ble_eq_true rfl) (fun p e s m below meth c C hV hr hlk hnm ls hl => ?_)
  have hl : lv_has ls 4 [(0, va_rf (some r9)), (1, .int (nI m9))] := hl
  have loop : ∀ (k : Nat) (pp : Option Nat) (i : Int32) (j : Nat) (rest : List Nat) (ls : Array Slot), rest.length < k → lv_has ls 4 [(3, va_rf (pp)), (2, .int (i)), (0, va_rf (some r9)), (1, .int (nI m9))] → q_ch (S.R 1) pp rest → i = nI j → j + rest.length = l9.length → (∀ a ∈ rest, a ∈ S.L ∧ S.K a = 0) → W p l e ({ frames := 0, cells := 0, slots := 0, locals := 0 } : Room) s m [.ref r9, .int (nI m9)].toArray below meth c s.heap [] (0) (0) (MQ below (va_Qi (post) (q_B E) E.A) [.ref r9, .int (nI m9)].toArray s (0) (0) E.A) (F0 m 7 ls []) := by
    intro k
    induction k with
    | zero => intro pp i j rest ls hk; exact absurd hk (Nat.not_lt_zero _)
    | succ k ih =>
      intro pp i j rest ls hk hl hch hi hj hok9
      refine q_aload_n (r := pp) C dX2_piecesIn_7 rfl (lv_at hl 0 rfl) ?_
      refine q_ifnull (r := pp) (tgt := 27) C dX2_piecesIn_8 (by decide) (fun c8 => ?_) (fun x8 c8 => ?_)
      · subst c8
        refine lv_iload_n C.1 C.2.1 dX2_piecesIn_27 rfl (lv_at hl 1 rfl) ?_
        refine q_iret (v := i) C hV hr hlk (Nat.le_of_ble_eq_true rfl) (Nat.le_of_ble_eq_true rfl) dX2_piecesIn_28 ?_
        have hre : rest = [] := by cases rest with
          | nil => rfl
          | cons a tl => exact nomatch hch.1
        refine hpost _ _ ⟨rfl, ?_⟩
        rw [hi, show j = l9.length from by rw [hre] at hj; simpa using hj]
      · subst c8
        obtain ⟨tl, rfl, hch2⟩ : ∃ tl, rest = x8 :: tl ∧ q_ch (S.R 1) (S.R 1 x8) tl := by
          cases rest with
          | nil => exact nomatch (show some x8 = none from hch)
          | cons a tl => cases hch.1; exact ⟨tl, rfl, hch.2⟩
        obtain ⟨hL_x8, hK_x8⟩ := hok9 x8 List.mem_cons_self
        refine lv_iload_n C.1 C.2.1 dX2_piecesIn_11 rfl (lv_at hl 1 rfl) ?_
        refine lv_iload_n C.1 C.2.1 dX2_piecesIn_12 rfl (lv_at hl 3 rfl) ?_
        refine lv_icmp_ge (tgt := 27) C.1 C.2.1 dX2_piecesIn_13 (by decide) (fun c13 => ?_) (fun c13 => ?_)
        · exfalso
          exact absurd (hi ▸ c13) (nI_ge (by simp at hj; omega) (by omega))
        · obtain ⟨i16, e16⟩ : ∃ y : Int32, y = i + 1 := ⟨_, rfl⟩
          refine q_iinc (v := i16) (k := 1) (lv' := [(2, .int (i16)), (3, va_rf (some x8)), (0, va_rf (some r9)), (1, .int (nI m9))]) C dX2_piecesIn_16 hl rfl (by rw [e16]; rfl) (by decide) (q_k0 (q_kN 0 rfl (by decide) (by decide) (q_kN 2 rfl (by decide) (by decide) (q_kC 3 rfl (by decide) rfl q_kz)))) (fun ls hl => ?_)
          refine q_aload_n (r := some x8) C dX2_piecesIn_19 rfl (lv_at hl 1 rfl) ?_
          refine g_Piece_older C hV hL_x8 hK_x8 (Or.inr ⟨_, wd_133⟩) dX2_piecesIn_20 ?_
          refine q_nr (fun r20 h20 => ?_)
          refine q_astore_n (r := r20) (lv' := [(3, va_rf (r20)), (2, .int (i16)), (0, va_rf (some r9)), (1, .int (nI m9))]) C dX2_piecesIn_23 rfl hl (by decide) (q_k0 (q_kC 0 rfl (by decide) rfl (q_kN 2 rfl (by decide) (by decide) (q_kN 3 rfl (by decide) (by decide) q_kz)))) (fun ls hl => ?_)
          refine lv_goto (tgt := 7) C.1 C.2.1 dX2_piecesIn_24 (by decide) ?_
          subst h20
          exact ih (S.R 1 x8) i16 (j + 1) tl ls (by simp at hk; omega) hl hch2 (by rw [e16, hi]; exact nI_1 j) (by simp at hj; omega) (fun a ha => hok9 a (List.mem_cons_of_mem _ ha))
  refine lv_iconst (v := 0) C.1 C.2.1 dX2_piecesIn_0 (by decide) ?_
  refine q_istore_n (x := 0) (lv' := [(2, .int (0)), (0, va_rf (some r9)), (1, .int (nI m9))]) C dX2_piecesIn_1 rfl hl (by decide) (q_k0 (q_kN 0 rfl (by decide) (by decide) (q_kC 1 rfl (by decide) rfl q_kz))) (fun ls hl => ?_)
  refine q_aload_n (r := some r9) C dX2_piecesIn_2 rfl (lv_at hl 1 rfl) ?_
  refine g_Row_latest C hV hL_r9 hK_r9 (Or.inr ⟨_, wd_74⟩) dX2_piecesIn_3 ?_
  refine q_nr (fun r3 h3 => ?_)
  refine q_astore_n (r := r3) (lv' := [(3, va_rf (r3)), (2, .int (0)), (0, va_rf (some r9)), (1, .int (nI m9))]) C dX2_piecesIn_6 rfl hl (by decide) (q_k0 (q_kC 0 rfl (by decide) rfl (q_kN 1 rfl (by decide) (by decide) (q_kN 2 rfl (by decide) (by decide) q_kz)))) (fun ls hl => ?_)
  exact loop (l9.length + 1) r3 0 0 l9 ls (Nat.lt_succ_self _) hl (by rw [h3]; exact hc) nI_0.symm (Nat.zero_add _) hok
theorem c_Shelves_piecesIn (l : Launch) (E : qE) (S : qS) (r9 m9 : Nat) (l9 : List Nat) (hL_r9 : r9 ∈ S.L) (hK_r9 : S.K r9 = 1) (hc : q_ch (S.R 1) (S.R 2 r9) l9) (hok : ∀ a ∈ l9, a ∈ S.L ∧ S.K a = 0) (hm : l9.length ≤ m9) (hm2 : m9 < 2 ^ 31) : q_Mi l yX2_piecesIn cX2_piecesIn 4 .int { frames := 0, cells := 0, slots := 0, locals := 0 } E [.ref r9, .int (nI m9)] S (fun r S1 => S1 = S ∧ r = nI l9.length) 0 0 := c0_Shelves_piecesIn l E S r9 m9 l9 hL_r9 hK_r9 hc hok hm hm2 _ (fun _ _ h => h)

abbrev q_c3 (l : List Nat) : Nat → Nat → Prop := fun j x => j = 3 ∧ x ∈ l
set_option maxHeartbeats 4000000 in
set_option maxRecDepth 100000 in
theorem c0_Shelves_wrongInRow (l : Launch) (E : qE) (S : qS) (r9 m9 z9 : Nat) (l9 : List Nat) (hL_r9 : r9 ∈ S.L) (hK_r9 : S.K r9 = 1) (hz : S.I 4 r9 = nI z9) (hc : q_ch (S.R 1) (S.R 2 r9) l9) (hok : ∀ a ∈ l9, a ∈ S.L ∧ S.K a = 0 ∧ S.I 1 a = nI z9 ∧ S.I 3 a = 1) (hpw : l9.Pairwise (fun a b => (S.J 0 b).toInt < (S.J 0 a).toInt)) (hm : l9.length ≤ m9) (hm2 : m9 < 2 ^ 31) (post : Int32 → qS → Prop) (hpost : ∀ r S1, (r = 0 ∧ q_fr S S1 (q_c3 l9) q_c0 q_c0) → post r S1) : q_Mi l yX2_wrongInRow cX2_wrongInRow 5 .int { frames := 0, cells := 0, slots := 0, locals := 0 } E [.ref r9, .int (nI m9)] S (post) 0 0 := by
  refine q_ofW1 (by decide) (q_1c rfl (q_1c rfl q_1n)) (Nat.le_of_ble_eq_true rfl) (fun p e s m below meth c C hV hr hlk hnm ls hl => ?_)
  have hl : lv_has ls 5 [(0, va_rf (some r9)), (1, .int (nI m9))] := hl
  have loop : ∀ (k : Nat) (pp : Option Nat) (i : Int32) (j : Nat) (rest : List Nat) (S' : qS) (H : Heap) (locs : List Loc) (ls : Array Slot), rest.length < k → q_V E s S' H locs → lv_has ls 5 [(4, .int (i)), (3, va_rf (pp)), (2, .int (0)), (0, va_rf (some r9)), (1, .int (nI m9))] → q_ch (S'.R 1) pp rest → i = nI j → j + rest.length = l9.length → (∀ a ∈ rest, a ∈ S'.L ∧ S'.K a = 0 ∧ S'.I 1 a = nI z9 ∧ S'.I 3 a = 1) → rest.Pairwise (fun a b => (S'.J 0 b).toInt < (S'.J 0 a).toInt) → r9 ∈ S'.L → S'.K r9 = 1 → S'.I 4 r9 = nI z9 → (∀ S1, q_fr S' S1 (q_c3 rest) q_c0 q_c0 → post 0 S1) → W p l e ({ frames := 0, cells := 0, slots := 0, locals := 0 } : Room) s m [.ref r9, .int (nI m9)].toArray below meth c H locs (0) (0) (MQ below (va_Qi (post) (q_B E) E.A) [.ref r9, .int (nI m9)].toArray s (0) (0) E.A) (F0 m 10 ls []) := by
    intro k
    induction k with
    | zero => intro pp i j rest S' H locs ls hk; exact absurd hk (Nat.not_lt_zero _)
    | succ k ih =>
      intro pp i j rest S' H locs ls hk hV hl hch hi hj hok9 hpw9 hL9 hK9 hz9 hpost9
      refine q_aload_n (r := pp) C dX2_wrongInRow_10 rfl (lv_at hl 1 rfl) ?_
      refine q_ifnull (r := pp) (tgt := 82) C dX2_wrongInRow_11 (by decide) (fun c11 => ?_) (fun x11 c11 => ?_)
      · subst c11
        refine lv_iload_n C.1 C.2.1 dX2_wrongInRow_82 rfl (lv_at hl 2 rfl) ?_
        refine q_iret (v := 0) C hV hr hlk (Nat.le_of_ble_eq_true rfl) (Nat.le_of_ble_eq_true rfl) dX2_wrongInRow_83 ?_
        have hre : rest = [] := by cases rest with
          | nil => rfl
          | cons a tl => exact nomatch hch.1
        exact hpost9 _ q_fr_rf
      · subst c11
        obtain ⟨tl, rfl, hch2⟩ : ∃ tl, rest = x11 :: tl ∧ q_ch (S'.R 1) (S'.R 1 x11) tl := by
          cases rest with
          | nil => exact nomatch (show some x11 = none from hch)
          | cons a tl => cases hch.1; exact ⟨tl, rfl, hch.2⟩
        obtain ⟨hL_x11, hK_x11, hI1x, hI3x⟩ := hok9 x11 List.mem_cons_self
        have hxt : x11 ∉ tl := (List.nodup_cons.mp (q_ch_nodup hch)).1
        have hL_r9 := hL9
        have hK_r9 := hK9
        refine lv_iload C.1 C.2.1 dX2_wrongInRow_14 (lv_at hl 0 rfl) ?_
        refine lv_iload_n C.1 C.2.1 dX2_wrongInRow_16 rfl (lv_at hl 4 rfl) ?_
        refine lv_icmp_ge (tgt := 82) C.1 C.2.1 dX2_wrongInRow_17 (by decide) (fun c17 => ?_) (fun c17 => ?_)
        · exfalso
          exact absurd (hi ▸ c17) (nI_ge (by simp at hj; omega) (by omega))
        · refine q_aload_n (r := some x11) C dX2_wrongInRow_20 rfl (lv_at hl 1 rfl) ?_
          refine g_Piece_awaited C hV hL_x11 hK_x11 (Or.inr ⟨_, wd_134⟩) dX2_wrongInRow_21 ?_
          refine q_ti (v' := 1) (hI3x) ?_
          refine lv_if_eq (tgt := 38) C.1 C.2.1 dX2_wrongInRow_24 (by decide) (fun c24 => ?_) (fun c24 => ?_)
          · exact absurd c24 (by decide)
          · refine q_aload_n (r := some x11) C dX2_wrongInRow_27 rfl (lv_at hl 1 rfl) ?_
            refine g_Piece_cells C hV hL_x11 hK_x11 (Or.inr ⟨_, wd_125⟩) dX2_wrongInRow_28 ?_
            refine q_ti (v' := nI z9) (hI1x) ?_
            refine q_aload_n (r := some r9) C dX2_wrongInRow_31 rfl (lv_at hl 3 rfl) ?_
            refine g_Row_cells C hV hL_r9 hK_r9 (Or.inr ⟨_, wd_72⟩) dX2_wrongInRow_32 ?_
            refine q_ti (v' := nI z9) (hz9) ?_
            refine lv_icmp_eq (tgt := 41) C.1 C.2.1 dX2_wrongInRow_35 (by decide) (fun c35 => ?_) (fun c35 => ?_)
            · refine q_aload_n (r := some x11) C dX2_wrongInRow_41 rfl (lv_at hl 1 rfl) ?_
              refine g_Piece_older C hV hL_x11 hK_x11 (Or.inr ⟨_, wd_133⟩) dX2_wrongInRow_42 ?_
              refine q_nr (fun r42 h42 => ?_)
              refine q_ifnull (r := r42) (tgt := 66) C dX2_wrongInRow_45 (by decide) (fun c45 => ?_) (fun x45 c45 => ?_)
              · subst c45
                refine q_aload_n (r := some x11) C dX2_wrongInRow_66 rfl (lv_at hl 1 rfl) ?_
                refine lv_iconst (v := 0) C.1 C.2.1 dX2_wrongInRow_67 (by decide) ?_
                refine p_Piece_awaited (v := 0) C hV hL_x11 hK_x11 (by decide) (Or.inr ⟨_, wd_134⟩) dX2_wrongInRow_68 (fun H locs hV => ?_)
                refine q_aload_n (r := some x11) C dX2_wrongInRow_71 rfl (lv_at hl 1 rfl) ?_
                refine g_Piece_older C hV hL_x11 hK_x11 (Or.inr ⟨_, wd_133⟩) dX2_wrongInRow_72 ?_
                refine q_nr (fun r72 h72 => ?_)
                refine q_astore_n (r := r72) (lv' := [(3, va_rf (r72)), (4, .int (i)), (2, .int (0)), (0, va_rf (some r9)), (1, .int (nI m9))]) C dX2_wrongInRow_75 rfl hl (by decide) (q_k0 (q_kN 0 rfl (by decide) (by decide) (q_kC 2 rfl (by decide) rfl (q_kN 3 rfl (by decide) (by decide) (q_kN 4 rfl (by decide) (by decide) q_kz))))) (fun ls hl => ?_)
                obtain ⟨i76, e76⟩ : ∃ y : Int32, y = i + 1 := ⟨_, rfl⟩
                refine q_iinc (v := i76) (k := 1) (lv' := [(4, .int (i76)), (3, va_rf (r72)), (2, .int (0)), (0, va_rf (some r9)), (1, .int (nI m9))]) C dX2_wrongInRow_76 hl rfl (by rw [e76]; rfl) (by decide) (q_k0 (q_kC 0 rfl (by decide) (q_cat _) (q_kN 2 rfl (by decide) (by decide) (q_kN 3 rfl (by decide) (by decide) (q_kN 4 rfl (by decide) (by decide) q_kz))))) (fun ls hl => ?_)
                refine lv_goto (tgt := 10) C.1 C.2.1 dX2_wrongInRow_79 (by decide) ?_
                subst h72
                exact ih (S'.R 1 x11) i76 (j + 1) tl (S'.sI 3 x11 0) H locs ls (by simp at hk; omega) hV hl hch2 (by rw [e76, hi]; exact nI_1 j) (by simp at hj; omega) (fun a ha => ⟨(hok9 a (List.mem_cons_of_mem _ ha)).1, (hok9 a (List.mem_cons_of_mem _ ha)).2.1, by rw [qI_ne _ _ _ _ (fun e : a = x11 => hxt (e ▸ ha))]; exact (hok9 a (List.mem_cons_of_mem _ ha)).2.2.1, by rw [qI_ne _ _ _ _ (fun e : a = x11 => hxt (e ▸ ha))]; exact (hok9 a (List.mem_cons_of_mem _ ha)).2.2.2⟩) (List.pairwise_cons.mp hpw9).2 hL9 hK9 (by rw [qI_of _ _ _ _ (by decide)]; exact hz9) (fun S1 h1 => hpost9 S1 (q_fr_tr (q_fr_sI ⟨rfl, List.mem_cons_self⟩) (q_fr_mo h1 (fun j x z => ⟨z.1, List.mem_cons_of_mem _ z.2⟩) (fun _ _ z => z) (fun _ _ z => z))))
              · subst c45
                obtain ⟨t2, htl⟩ : ∃ t2, tl = x45 :: t2 := by
                  have hq := q_ch_head hch2
                  rw [← h42] at hq
                  cases tl with
                  | nil => exact nomatch hq
                  | cons b t2 => exact ⟨t2, by rw [Option.some.inj hq]⟩
                have hR1x : S'.R 1 x11 = some x45 := h42.symm
                obtain ⟨hL_x45, hK_x45, -, -⟩ := hok9 x45 (by rw [htl]; simp)
                refine q_aload_n (r := some x11) C dX2_wrongInRow_48 rfl (lv_at hl 1 rfl) ?_
                refine g_Piece_older C hV hL_x11 hK_x11 (Or.inr ⟨_, wd_133⟩) dX2_wrongInRow_49 ?_
                refine q_tr (v' := some x45) (hR1x) ?_
                refine g_Piece_since C hV hL_x45 hK_x45 (Or.inr ⟨_, wd_129⟩) dX2_wrongInRow_52 ?_
                refine q_aload_n (r := some x11) C dX2_wrongInRow_55 rfl (lv_at hl 1 rfl) ?_
                refine g_Piece_since C hV hL_x11 hK_x11 (Or.inr ⟨_, wd_129⟩) dX2_wrongInRow_56 ?_
                refine W.lcmp C.1 C.2.1 dX2_wrongInRow_59 ?_
                refine lv_if_lt (tgt := 66) C.1 C.2.1 dX2_wrongInRow_60 (by decide) (fun c60 => ?_) (fun c60 => ?_)
                · refine q_aload_n (r := some x11) C dX2_wrongInRow_66 rfl (lv_at hl 1 rfl) ?_
                  refine lv_iconst (v := 0) C.1 C.2.1 dX2_wrongInRow_67 (by decide) ?_
                  refine p_Piece_awaited (v := 0) C hV hL_x11 hK_x11 (by decide) (Or.inr ⟨_, wd_134⟩) dX2_wrongInRow_68 (fun H locs hV => ?_)
                  refine q_aload_n (r := some x11) C dX2_wrongInRow_71 rfl (lv_at hl 1 rfl) ?_
                  refine g_Piece_older C hV hL_x11 hK_x11 (Or.inr ⟨_, wd_133⟩) dX2_wrongInRow_72 ?_
                  refine q_nr (fun r72 h72 => ?_)
                  refine q_astore_n (r := r72) (lv' := [(3, va_rf (r72)), (4, .int (i)), (2, .int (0)), (0, va_rf (some r9)), (1, .int (nI m9))]) C dX2_wrongInRow_75 rfl hl (by decide) (q_k0 (q_kN 0 rfl (by decide) (by decide) (q_kC 2 rfl (by decide) rfl (q_kN 3 rfl (by decide) (by decide) (q_kN 4 rfl (by decide) (by decide) q_kz))))) (fun ls hl => ?_)
                  obtain ⟨i76, e76⟩ : ∃ y : Int32, y = i + 1 := ⟨_, rfl⟩
                  refine q_iinc (v := i76) (k := 1) (lv' := [(4, .int (i76)), (3, va_rf (r72)), (2, .int (0)), (0, va_rf (some r9)), (1, .int (nI m9))]) C dX2_wrongInRow_76 hl rfl (by rw [e76]; rfl) (by decide) (q_k0 (q_kC 0 rfl (by decide) (q_cat _) (q_kN 2 rfl (by decide) (by decide) (q_kN 3 rfl (by decide) (by decide) (q_kN 4 rfl (by decide) (by decide) q_kz))))) (fun ls hl => ?_)
                  refine lv_goto (tgt := 10) C.1 C.2.1 dX2_wrongInRow_79 (by decide) ?_
                  subst h72
                  exact ih (S'.R 1 x11) i76 (j + 1) tl (S'.sI 3 x11 0) H locs ls (by simp at hk; omega) hV hl hch2 (by rw [e76, hi]; exact nI_1 j) (by simp at hj; omega) (fun a ha => ⟨(hok9 a (List.mem_cons_of_mem _ ha)).1, (hok9 a (List.mem_cons_of_mem _ ha)).2.1, by rw [qI_ne _ _ _ _ (fun e : a = x11 => hxt (e ▸ ha))]; exact (hok9 a (List.mem_cons_of_mem _ ha)).2.2.1, by rw [qI_ne _ _ _ _ (fun e : a = x11 => hxt (e ▸ ha))]; exact (hok9 a (List.mem_cons_of_mem _ ha)).2.2.2⟩) (List.pairwise_cons.mp hpw9).2 hL9 hK9 (by rw [qI_of _ _ _ _ (by decide)]; exact hz9) (fun S1 h1 => hpost9 S1 (q_fr_tr (q_fr_sI ⟨rfl, List.mem_cons_self⟩) (q_fr_mo h1 (fun j x z => ⟨z.1, List.mem_cons_of_mem _ z.2⟩) (fun _ _ z => z) (fun _ _ z => z))))
                · have hlt := (List.pairwise_cons.mp hpw9).1 x45 (by rw [htl]; simp)
                  exact absurd ((lg_cmp_lt _ _).mpr (Int64.lt_iff_toInt_lt.mpr hlt)) c60
            · exact absurd rfl c35
  refine lv_iconst (v := 0) C.1 C.2.1 dX2_wrongInRow_0 (by decide) ?_
  refine q_istore_n (x := 0) (lv' := [(2, .int (0)), (0, va_rf (some r9)), (1, .int (nI m9))]) C dX2_wrongInRow_1 rfl hl (by decide) (q_k0 (q_kN 0 rfl (by decide) (by decide) (q_kC 1 rfl (by decide) rfl q_kz))) (fun ls hl => ?_)
  refine q_aload_n (r := some r9) C dX2_wrongInRow_2 rfl (lv_at hl 1 rfl) ?_
  refine g_Row_latest C hV hL_r9 hK_r9 (Or.inr ⟨_, wd_74⟩) dX2_wrongInRow_3 ?_
  refine q_nr (fun r3 h3 => ?_)
  refine q_astore_n (r := r3) (lv' := [(3, va_rf (r3)), (2, .int (0)), (0, va_rf (some r9)), (1, .int (nI m9))]) C dX2_wrongInRow_6 rfl hl (by decide) (q_k0 (q_kC 0 rfl (by decide) rfl (q_kN 1 rfl (by decide) (by decide) (q_kN 2 rfl (by decide) (by decide) q_kz)))) (fun ls hl => ?_)
  refine lv_iconst (v := 0) C.1 C.2.1 dX2_wrongInRow_7 (by decide) ?_
  refine q_istore (x := 0) (lv' := [(4, .int (0)), (3, va_rf (r3)), (2, .int (0)), (0, va_rf (some r9)), (1, .int (nI m9))]) C dX2_wrongInRow_8 hl (by decide) (q_k0 (q_kC 0 rfl (by decide) (q_cat _) (q_kN 1 rfl (by decide) (by decide) (q_kN 2 rfl (by decide) (by decide) (q_kN 3 rfl (by decide) (by decide) q_kz))))) (fun ls hl => ?_)
  exact loop (l9.length + 1) r3 0 0 l9 S s.heap [] ls (Nat.lt_succ_self _) hV hl (by rw [h3]; exact hc) nI_0.symm (Nat.zero_add _) hok hpw hL_r9 hK_r9 hz (fun S1 h1 => hpost _ _ ⟨rfl, h1⟩)
theorem c_Shelves_wrongInRow (l : Launch) (E : qE) (S : qS) (r9 m9 z9 : Nat) (l9 : List Nat) (hL_r9 : r9 ∈ S.L) (hK_r9 : S.K r9 = 1) (hz : S.I 4 r9 = nI z9) (hc : q_ch (S.R 1) (S.R 2 r9) l9) (hok : ∀ a ∈ l9, a ∈ S.L ∧ S.K a = 0 ∧ S.I 1 a = nI z9 ∧ S.I 3 a = 1) (hpw : l9.Pairwise (fun a b => (S.J 0 b).toInt < (S.J 0 a).toInt)) (hm : l9.length ≤ m9) (hm2 : m9 < 2 ^ 31) : q_Mi l yX2_wrongInRow cX2_wrongInRow 5 .int { frames := 0, cells := 0, slots := 0, locals := 0 } E [.ref r9, .int (nI m9)] S (fun r S1 => r = 0 ∧ q_fr S S1 (q_c3 l9) q_c0 q_c0) 0 0 := c0_Shelves_wrongInRow l E S r9 m9 z9 l9 hL_r9 hK_r9 hz hc hok hpw hm hm2 _ (fun _ _ h => h)

/-- what faults needs of the rows: S0 the state in which the flags were set, S' a later one -/
def q_flg (S : qS) (rows : Nat → List Nat) (ok : Nat → Prop) : Prop := ∀ z, ok z → ∀ a ∈ rows z, S.I 3 a = 1
theorem q_flg_fr {S S1 : qS} {h ar t : Nat} {ns : List Nat} {rows : Nat → List Nat} (hs : q_sh S h ar t ns rows) {z0 : Nat} {ok ok' : Nat → Prop} (hf : q_fr S S1 (q_c3 (rows z0)) q_c0 q_c0) (h : q_flg S rows ok) (ho : ∀ z, ok' z → ok z ∧ z ≠ z0) : q_flg S1 rows ok' := by
  intro z hz a ha
  obtain ⟨h1, h2⟩ := ho z hz
  obtain ⟨g1, -, g3, g4⟩ := hs.2.2.2.2.2.2 z a ha
  rw [hf.2.1 a g1 3 (fun e => ?_)]
  · exact h z h1 a ha
  · obtain ⟨-, -, k3, k4⟩ := hs.2.2.2.2.2.2 z0 a e.2
    exact h2 ((nI_eq g4 k4).mp (g3.symm.trans k3))
theorem q_sh_c3 {S S1 : qS} {h ar t : Nat} {ns : List Nat} {rows : Nat → List Nat} {l : List Nat} (hs : q_sh S h ar t ns rows) (hf : q_fr S S1 (q_c3 l) q_c0 q_c0) : q_sh S1 h ar t ns rows :=
  q_sh_fr hs hf (fun a e => absurd e.1 (by decide)) (fun _ p _ e => absurd e.1 (by decide)) (fun a => ⟨id, id, id, id, id, id⟩) (fun _ _ _ e => e)
theorem q_pw_fr {S S1 : qS} {h ar t : Nat} {ns : List Nat} {rows : Nat → List Nat} {cI cR : Nat → Nat → Prop} (hs : q_sh S h ar t ns rows) (hf : q_fr S S1 cI cR q_c0) (h : ∀ z, (rows z).Pairwise (fun a b => (S.J 0 b).toInt < (S.J 0 a).toInt)) : ∀ z, (rows z).Pairwise (fun a b => (S1.J 0 b).toInt < (S1.J 0 a).toInt) := fun z => by
  refine List.Pairwise.imp_of_mem ?_ (h z)
  intro a b ha hb hab
  rw [hf.2.2.2 a (hs.2.2.2.2.2.2 z a ha).1 0 id, hf.2.2.2 b (hs.2.2.2.2.2.2 z b hb).1 0 id]
  exact hab
theorem q_c3_any {S S1 : qS} {l : List Nat} (hf : q_fr S S1 (q_c3 l) q_c0 q_c0) : q_fr S S1 (fun j _ => j = 3) q_c0 q_c0 := q_fr_mo hf (fun _ _ z => z.1) (fun _ _ z => z) (fun _ _ z => z)
set_option maxHeartbeats 4000000 in
set_option maxRecDepth 100000 in
theorem c0_Shelves_wrongThings (l : Launch) (E : qE) (S : qS) (h ar t sh m9 : Nat) (ns : List Nat) (rows : Nat → List Nat) (zf : Nat → Nat) (hs : q_sh S h ar t ns rows) (hne : q_ne S ns rows) (hzf : ∀ r ∈ ns, q_row S rows (zf r) r ∧ 64 ≤ zf r) (hfl : q_flg S rows (fun _ => True)) (hpw : ∀ z, (rows z).Pairwise (fun a b => (S.J 0 b).toInt < (S.J 0 a).toInt)) (hlen : ∀ z, (rows z).length ≤ m9) (hnl : ns.length ≤ m9) (hm2 : m9 < 2 ^ 31) (hz9 : ∀ z, rows z ≠ [] → z ≤ 16384) (hsh : sh = (q_l1 rows 61).length + (q_l2 rows zf ns).length) (post : Int32 → qS → Prop) (hpost : ∀ r S1, (r = 0 ∧ q_fr S S1 (fun j _ => j = 3) q_c0 q_c0) → post r S1) : q_Mi l yX2_wrongThings cX2_wrongThings 7 .int { frames := 1, cells := 0, slots := 0, locals := 24 } E [.ref h, .int (nI sh), .int (nI m9)] S (post) 0 0 := by
  refine q_ofW1 (by decide) (q_1c rfl (q_1c rfl (q_1c rfl q_1n))) (Nat.le_of_ble_eq_true rfl) (fun p e s m below meth c C hV hr hlk hnm ls hl => ?_)
  have hl : lv_has ls 7 [(0, va_rf (some h)), (1, .int (nI sh)), (2, .int (nI m9))] := hl
  have hnd : ns.Nodup := q_so_nodup hs.2.2.2.1.2.2.2.2
  have loop2 : ∀ (k : Nat) (pp : Option Nat) (mt i6 : Int32) (j k9 : Nat) (D R : List Nat) (S' : qS) (H : Heap) (locs : List Loc) (ls : Array Slot), R.length < k → q_V E s S' H locs → lv_has ls 7 [(6, .int (i6)), (5, va_rf (pp)), (4, .int (mt)), (3, .int (0)), (0, va_rf (some h)), (1, .int (nI sh)), (2, .int (nI m9))] → q_sh S' h ar t ns rows → D ++ R = ns → pp = R.head? → mt = nI k9 → k9 + (q_l2 rows zf R).length = sh → i6 = nI j → j = D.length → q_flg S' rows (fun z => ∃ r ∈ R, z = zf r) → (∀ z, (rows z).Pairwise (fun a b => (S'.J 0 b).toInt < (S'.J 0 a).toInt)) → (∀ r ∈ ns, q_row S' rows (zf r) r ∧ 64 ≤ zf r) → q_fr S S' (fun j _ => j = 3) q_c0 q_c0 → W p l e ({ frames := 1, cells := 0, slots := 0, locals := 24 } : Room) s m [.ref h, .int (nI sh), .int (nI m9)].toArray below meth c H locs (0) (0) (MQ below (va_Qi (post) (q_B E) E.A) [.ref h, .int (nI sh), .int (nI m9)].toArray s (0) (0) E.A) (F0 m 67 ls []) := by
    intro k
    induction k with
    | zero => intro pp mt i6 j k9 D R S' H locs ls hk; exact absurd hk (Nat.not_lt_zero _)
    | succ k ih =>
      intro pp mt i6 j k9 D R S' H locs ls hk hV hl hsS hD hpp hmt hk9 hi6 hj hfl9 hpw9 hrw9 hfS
      refine q_aload (r := pp) C dX2_wrongThings_67 (lv_at hl 1 rfl) ?_
      refine q_ifnull (r := pp) (tgt := 141) C dX2_wrongThings_69 (by decide) (fun c69 => ?_) (fun x69 c69 => ?_)
      · subst c69
        have hmtE : mt = nI sh := by
          have hRe : R = [] := by cases R with
            | nil => rfl
            | cons b R2 => exact nomatch hpp
          rw [hmt]; rw [hRe] at hk9; rw [show k9 = sh from by simpa [q_l2] using hk9]
        subst hmtE
        refine lv_iload C.1 C.2.1 dX2_wrongThings_141 (lv_at hl 2 rfl) ?_
        refine lv_iload_n C.1 C.2.1 dX2_wrongThings_143 rfl (lv_at hl 5 rfl) ?_
        refine lv_icmp_ne (tgt := 151) C.1 C.2.1 dX2_wrongThings_144 (by decide) (fun c144 => ?_) (fun c144 => ?_)
        · exfalso
          exact c144 rfl
        · refine lv_iload_n C.1 C.2.1 dX2_wrongThings_147 rfl (lv_at hl 3 rfl) ?_
          refine lv_goto (tgt := 154) C.1 C.2.1 dX2_wrongThings_148 (by decide) ?_
          refine q_iret (v := 0) C hV hr hlk (Nat.le_of_ble_eq_true rfl) (Nat.le_of_ble_eq_true rfl) dX2_wrongThings_154 ?_
          exact hpost _ _ ⟨rfl, hfS⟩
      · subst c69
        obtain ⟨R2, rfl⟩ : ∃ R2, R = x69 :: R2 := by
          cases R with
          | nil => exact nomatch hpp
          | cons b R2 => exact ⟨R2, by rw [Option.some.inj hpp]⟩
        have hxn : x69 ∈ ns := by rw [← hD]; simp
        obtain ⟨hrx, hz64⟩ := hrw9 x69 hxn
        have hL_x69 := hrx.1
        have hK_x69 := hrx.2.1
        have hz4 := hrx.2.2.1
        have hnex : rows (zf x69) ≠ [] := by
          have h9 := hne x69 hxn
          rw [q_row_z (hzf x69 hxn).1] at h9
          simpa using h9
        have hz5 := hz9 _ hnex
        have hlenD : D.length < ns.length := by rw [← hD]; simp
        obtain ⟨hL_t, hK_t⟩ : t ∈ S'.L ∧ S'.K t = 3 := ⟨hsS.2.2.2.1.1, hsS.2.2.2.1.2.1⟩
        refine lv_iload C.1 C.2.1 dX2_wrongThings_72 (lv_at hl 0 rfl) ?_
        refine lv_iload_n C.1 C.2.1 dX2_wrongThings_74 rfl (lv_at hl 6 rfl) ?_
        refine lv_icmp_ge (tgt := 141) C.1 C.2.1 dX2_wrongThings_75 (by decide) (fun c75 => ?_) (fun c75 => ?_)
        · exfalso
          exact absurd (hi6 ▸ c75) (nI_ge (by omega) (by omega))
        · refine q_aload (r := some x69) C dX2_wrongThings_78 (lv_at hl 1 rfl) ?_
          refine g_Row_cells C hV hL_x69 hK_x69 (Or.inr ⟨_, wd_72⟩) dX2_wrongThings_80 ?_
          refine q_ti (v' := nI (zf x69)) (hz4) ?_
          refine lv_bipush (v := 64) C.1 C.2.1 dX2_wrongThings_83 (by decide) ?_
          refine lv_icmp_lt (tgt := 96) C.1 C.2.1 dX2_wrongThings_85 (by decide) (fun c85 => ?_) (fun c85 => ?_)
          · exfalso
            exact absurd ((nI_ltI (by omega) (by omega)).mp (show nI (zf x69) < nI 64 from c85)) (by omega)
          · refine q_aload (r := some x69) C dX2_wrongThings_88 (lv_at hl 1 rfl) ?_
            refine g_Row_latest C hV hL_x69 hK_x69 (Or.inr ⟨_, wd_74⟩) dX2_wrongThings_90 ?_
            refine q_nr (fun r90 h90 => ?_)
            refine q_ifnonnull (r := r90) (tgt := 99) C dX2_wrongThings_93 (by decide) (fun x93 c93 => ?_) (fun c93 => ?_)
            · subst c93
              refine lv_iload_n C.1 C.2.1 dX2_wrongThings_99 rfl (lv_at hl 3 rfl) ?_
              refine q_aload (r := some x69) C dX2_wrongThings_100 (lv_at hl 1 rfl) ?_
              refine lv_iload_n C.1 C.2.1 dX2_wrongThings_102 rfl (lv_at hl 6 rfl) ?_
              refine q_ci hV (q_rS (As := [va_rf (some x69), .int (nI m9)]) (rest := [.int (0)]) C hV (c_Shelves_wrongInRow l E S' x69 m9 (zf x69) (rows (zf x69)) hL_x69 hK_x69 hz4 hrx.2.2.2.2 (fun b hb => ⟨(hsS.2.2.2.2.2.2 _ b hb).1, (hsS.2.2.2.2.2.2 _ b hb).2.1, (hsS.2.2.2.2.2.2 _ b hb).2.2.1, hfl9 _ ⟨x69, List.mem_cons_self, rfl⟩ b hb⟩) (hpw9 _) (hlen _) hm2) wd_248 wd_246 wd_247 wd_38 ok_X2_wrongInRow ⟨rfl, rfl, Nat.le_of_ble_eq_true rfl, Nat.le_of_ble_eq_true rfl⟩ rfl hl.1 rfl (q_sm (q_1c rfl q_1n) (Nat.le_of_ble_eq_true rfl)) dX2_wrongThings_103 ⟨Nat.le_of_ble_eq_true rfl, Nat.le_of_ble_eq_true rfl⟩) (fun i103 S103 H locs hp103 hV => ?_)
              obtain ⟨rfl, hf103⟩ := hp103
              have hs3 := q_sh_c3 hsS hf103
              have hpw3 := q_pw_fr hsS hf103 hpw9
              have hL_x69b : x69 ∈ S103.L := (hf103.1 x69 hL_x69).1
              have hK_x69b : S103.K x69 = 1 := (hf103.1 x69 hL_x69).2.1.trans hK_x69
              have hL_hb := hs3.1.1
              have hK_hb := hs3.1.2.1
              have hL_tb := hs3.2.2.2.1.1
              have hK_tb := hs3.2.2.2.1.2.1
              have hrw3 : ∀ r ∈ ns, q_row S103 rows (zf r) r ∧ 64 ≤ zf r := fun r hr => ⟨q_row_fr (hrw9 r hr).1 hf103 (fun e => absurd e.1 (by decide)) id (fun p hp => ⟨(hsS.2.2.2.2.2.2 _ p hp).1, id⟩) rfl, (hrw9 r hr).2⟩
              have hz4b : S103.I 4 x69 = nI (zf x69) := (hrw3 x69 hxn).1.2.2.1
              have hinj : ∀ r ∈ ns, r ≠ x69 → zf r ≠ zf x69 := fun r hr hn e => hn (q_so_inj hs.2.2.2.1.2.2.2.2 hr hxn (by rw [q_row_z (hzf r hr).1, q_row_z (hzf x69 hxn).1, e]))
              have hndx : ∀ r ∈ R2, r ≠ x69 := fun r hr e => by rw [← hD] at hnd; have := (List.nodup_append.mp hnd).2.1; exact (List.nodup_cons.mp this).1 (e ▸ hr)
              have hfl3 : q_flg S103 rows (fun z => ∃ r ∈ R2, z = zf r) := q_flg_fr hsS hf103 hfl9 (fun z ⟨r, hr, e⟩ => ⟨⟨r, List.mem_cons_of_mem _ hr, e⟩, by rw [e]; exact hinj r (by rw [← hD]; simp [hr]) (hndx r hr)⟩)
              refine lv_iadd C.1 C.2.1 dX2_wrongThings_106 ?_
              refine q_ti (v' := 0) (by decide) ?_
              refine q_istore_n (x := 0) (lv' := [(3, .int (0)), (6, .int (i6)), (5, va_rf (some x69)), (4, .int (mt)), (0, va_rf (some h)), (1, .int (nI sh)), (2, .int (nI m9))]) C dX2_wrongThings_107 rfl hl (by decide) (q_k0 (q_kN 0 rfl (by decide) (by decide) (q_kN 1 rfl (by decide) (by decide) (q_kN 2 rfl (by decide) (by decide) (q_kN 4 rfl (by decide) (by decide) (q_kN 5 rfl (by decide) (by decide) (q_kC 6 rfl (by decide) rfl q_kz))))))) (fun ls hl => ?_)
              refine lv_iload C.1 C.2.1 dX2_wrongThings_108 (lv_at hl 3 rfl) ?_
              refine q_aload (r := some x69) C dX2_wrongThings_110 (lv_at hl 2 rfl) ?_
              refine lv_iload_n C.1 C.2.1 dX2_wrongThings_112 rfl (lv_at hl 6 rfl) ?_
              refine q_ci hV (q_rS (As := [va_rf (some x69), .int (nI m9)]) (rest := [.int (mt)]) C hV (c_Shelves_piecesIn l E S103 x69 m9 (rows (zf x69)) hL_x69b hK_x69b (hrw3 x69 hxn).1.2.2.2.2 (fun b hb => ⟨(hs3.2.2.2.2.2.2 _ b hb).1, (hs3.2.2.2.2.2.2 _ b hb).2.1⟩) (hlen _) hm2) wd_251 wd_249 wd_250 wd_38 ok_X2_piecesIn ⟨rfl, rfl, Nat.le_of_ble_eq_true rfl, Nat.le_of_ble_eq_true rfl⟩ rfl hl.1 rfl (q_sm (q_1c rfl q_1n) (Nat.le_of_ble_eq_true rfl)) dX2_wrongThings_113 ⟨Nat.le_of_ble_eq_true rfl, Nat.le_of_ble_eq_true rfl⟩) (fun i113 S113 H locs hp113 hV => ?_)
              obtain ⟨eS113, hp113⟩ := hp113
              rw [eS113] at hV
              subst hp113
              refine lv_iadd C.1 C.2.1 dX2_wrongThings_116 ?_
              refine q_istore (x := mt + (nI (rows (zf x69)).length)) (lv' := [(4, .int (mt + (nI (rows (zf x69)).length))), (3, .int (0)), (6, .int (i6)), (5, va_rf (some x69)), (0, va_rf (some h)), (1, .int (nI sh)), (2, .int (nI m9))]) C dX2_wrongThings_117 hl (by decide) (q_k0 (q_kC 0 rfl (by decide) rfl (q_kN 1 rfl (by decide) (by decide) (q_kN 2 rfl (by decide) (by decide) (q_kN 4 rfl (by decide) (by decide) (q_kN 5 rfl (by decide) (by decide) (q_kN 6 rfl (by decide) (by decide) q_kz))))))) (fun ls hl => ?_)
              refine q_aload_n (r := some h) C dX2_wrongThings_119 rfl (lv_at hl 4 rfl) ?_
              refine g_Shelves_great C hV hL_hb hK_hb (Or.inl wd_98) dX2_wrongThings_120 ?_
              refine q_tr (v' := some t) (hs3.1.2.2.2) ?_
              refine q_aload (r := some x69) C dX2_wrongThings_123 (lv_at hl 3 rfl) ?_
              refine g_Row_cells C hV hL_x69b hK_x69b (Or.inr ⟨_, wd_72⟩) dX2_wrongThings_125 ?_
              refine q_ti (v' := nI (zf x69)) (hz4b) ?_
              refine lv_iconst (v := 1) C.1 C.2.1 dX2_wrongThings_128 (by decide) ?_
              refine lv_iadd C.1 C.2.1 dX2_wrongThings_129 ?_
              refine q_cq hV (q_rN (b := t) (As := [.int ((nI (zf x69)) + 1)]) (rest := []) C hV (c_Tree_leastFrom l E S103 t (nI (zf x69) + 1) ns hs3.2.2.2.1) wd_255 wd_252 wd_254 wd_17 wd_40 ok_X3_leastFrom ⟨rfl, rfl, Nat.le_of_ble_eq_true rfl, Nat.le_of_ble_eq_true rfl⟩ (q_rc3 hV hL_tb hK_tb) rfl hl.1 rfl (q_sm q_1n (Nat.le_of_ble_eq_true rfl)) dX2_wrongThings_130 ⟨Nat.le_of_ble_eq_true rfl, Nat.le_of_ble_eq_true rfl⟩) (fun r130 S130 H locs hp130 hV => ?_)
              obtain ⟨eS130, hp130⟩ := hp130
              rw [eS130] at hV
              have hpp2 : r130 = R2.head? := by
                rw [hp130]
                have hso := hs3.2.2.2.1.2.2.2.2
                rw [← hD] at hso ⊢
                rw [show D ++ x69 :: R2 = (D ++ [x69]) ++ R2 from by simp] at hso ⊢
                have e9 : (nI (zf x69) + 1).toInt = (zf x69 : Int) + 1 := by rw [nI_1, nI_toInt (by omega)]; rfl
                rw [e9]
                have hzx : q_z S103 x69 = zf x69 := q_row_z (hrw3 x69 hxn).1
                have hmid : q_so (q_z S103) (D ++ x69 :: R2) := by simpa using hso
                have hm9 := q_so_mid hmid
                refine q_find_ge (fun b hb => ?_) (fun b hb => ?_)
                · rcases List.mem_append.mp hb with hb | hb
                  · have := hm9.1 b hb; omega
                  · rw [List.mem_singleton.mp hb]; omega
                · have := hm9.2 b hb; omega
              refine q_astore (r := r130) (lv' := [(5, va_rf (r130)), (4, .int (mt + (nI (rows (zf x69)).length))), (3, .int (0)), (6, .int (i6)), (0, va_rf (some h)), (1, .int (nI sh)), (2, .int (nI m9))]) C dX2_wrongThings_133 hl (by decide) (q_k0 (q_kC 0 rfl (by decide) rfl (q_kN 1 rfl (by decide) (by decide) (q_kN 2 rfl (by decide) (by decide) (q_kN 4 rfl (by decide) (by decide) (q_kN 5 rfl (by decide) (by decide) (q_kN 6 rfl (by decide) (by decide) q_kz))))))) (fun ls hl => ?_)
              obtain ⟨i135, e135⟩ : ∃ y : Int32, y = i6 + 1 := ⟨_, rfl⟩
              refine q_iinc (v := i135) (k := 3) (lv' := [(6, .int (i135)), (5, va_rf (r130)), (4, .int (mt + (nI (rows (zf x69)).length))), (3, .int (0)), (0, va_rf (some h)), (1, .int (nI sh)), (2, .int (nI m9))]) C dX2_wrongThings_135 hl rfl (by rw [e135]; rfl) (by decide) (q_k0 (q_kC 0 rfl (by decide) (q_cat _) (q_kN 1 rfl (by decide) (by decide) (q_kN 2 rfl (by decide) (by decide) (q_kN 4 rfl (by decide) (by decide) (q_kN 5 rfl (by decide) (by decide) (q_kN 6 rfl (by decide) (by decide) q_kz))))))) (fun ls hl => ?_)
              refine lv_goto (tgt := 67) C.1 C.2.1 dX2_wrongThings_138 (by decide) ?_
              exact ih _ _ i135 (j + 1) (k9 + (rows (zf x69)).length) (D ++ [x69]) R2 S103 H locs ls (by simp at hk; omega) hV hl hs3 (by rw [← hD]; simp) hpp2 (by rw [hmt]; exact nI_add _ _) (by simp only [q_l2, List.length_append] at hk9; omega) (by rw [e135, hi6]; exact nI_1 j) (by simp; omega) hfl3 hpw3 hrw3 (q_fr_tr hfS (q_c3_any hf103))
            · subst c93
              exfalso
              have hch := hrx.2.2.2.2
              rw [← h90] at hch
              cases hrr : rows (zf x69) with
              | nil => exact hnex hrr
              | cons b u => rw [hrr] at hch; exact nomatch hch.1
  have loop1 : ∀ (k : Nat) (i5 mt : Int32) (j : Nat) (S' : qS) (H : Heap) (locs : List Loc) (ls : Array Slot), 61 - j < k → q_V E s S' H locs → lv_has ls 7 [(5, .int (i5)), (4, .int (mt)), (3, .int (0)), (0, va_rf (some h)), (1, .int (nI sh)), (2, .int (nI m9))] → q_sh S' h ar t ns rows → i5 = nI j → j ≤ 61 → mt = nI (q_l1 rows j).length → q_flg S' rows (fun z => j + 3 ≤ z) → (∀ z, (rows z).Pairwise (fun a b => (S'.J 0 b).toInt < (S'.J 0 a).toInt)) → q_fr S S' (fun j _ => j = 3) q_c0 q_c0 → W p l e ({ frames := 1, cells := 0, slots := 0, locals := 24 } : Room) s m [.ref h, .int (nI sh), .int (nI m9)].toArray below meth c H locs (0) (0) (MQ below (va_Qi (post) (q_B E) E.A) [.ref h, .int (nI sh), .int (nI m9)].toArray s (0) (0) E.A) (F0 m 8 ls []) := by
    intro k
    induction k with
    | zero => intro i5 mt j S' H locs ls hk; exact absurd hk (Nat.not_lt_zero _)
    | succ k ih =>
      intro i5 mt j S' H locs ls hk hV hl hsS hi5 hj hmt hfl9 hpw9 hfS
      have hL_h := hsS.1.1
      have hK_h := hsS.1.2.1
      have hL_ar := hsS.2.1.1
      have hK_ar := hsS.2.1.2.1
      refine lv_iload C.1 C.2.1 dX2_wrongThings_8 (lv_at hl 0 rfl) ?_
      refine q_aload_n (r := some h) C dX2_wrongThings_10 rfl (lv_at hl 3 rfl) ?_
      refine g_Shelves_small C hV hL_h hK_h (Or.inl wd_97) dX2_wrongThings_11 ?_
      refine q_tr (v' := some ar) (hsS.1.2.2.1) ?_
      refine q_len7 C hV hL_ar hK_ar dX2_wrongThings_14 ?_
      refine q_ti (v' := 61) (by rw [hsS.2.1.2.2]; decide) ?_
      refine lv_icmp_ge (tgt := 54) C.1 C.2.1 dX2_wrongThings_15 (by decide) (fun c15 => ?_) (fun c15 => ?_)
      · have hj61 : j = 61 := by
          rcases Nat.lt_or_ge j 61 with h | h
          · exact absurd (hi5 ▸ c15) (nI_ge h (by omega))
          · omega
        subst hj61
        obtain ⟨hL_t, hK_t⟩ : t ∈ S'.L ∧ S'.K t = 3 := ⟨hsS.2.2.2.1.1, hsS.2.2.2.1.2.1⟩
        have hrwS : ∀ r ∈ ns, q_row S' rows (zf r) r ∧ 64 ≤ zf r := fun r hr => ⟨q_row_fr (hzf r hr).1 hfS (fun e => absurd (show (4 : Nat) = 3 from e) (by decide)) id (fun p hp => ⟨(hs.2.2.2.2.2.2 _ p hp).1, id⟩) rfl, (hzf r hr).2⟩
        refine q_aload_n (r := some h) C dX2_wrongThings_54 rfl (lv_at hl 3 rfl) ?_
        refine g_Shelves_great C hV hL_h hK_h (Or.inl wd_98) dX2_wrongThings_55 ?_
        refine q_tr (v' := some t) (hsS.1.2.2.2) ?_
        refine lv_iconst (v := 0) C.1 C.2.1 dX2_wrongThings_58 (by decide) ?_
        refine q_cq hV (q_rN (b := t) (As := [.int (0)]) (rest := []) C hV (c_Tree_leastFrom l E S' t 0 ns hsS.2.2.2.1) wd_255 wd_252 wd_254 wd_17 wd_40 ok_X3_leastFrom ⟨rfl, rfl, Nat.le_of_ble_eq_true rfl, Nat.le_of_ble_eq_true rfl⟩ (q_rc3 hV hL_t hK_t) rfl hl.1 rfl (q_sm q_1n (Nat.le_of_ble_eq_true rfl)) dX2_wrongThings_59 ⟨Nat.le_of_ble_eq_true rfl, Nat.le_of_ble_eq_true rfl⟩) (fun r59 S59 H locs hp59 hV => ?_)
        obtain ⟨eS59, hp59⟩ := hp59
        rw [eS59] at hV
        have hp59 : r59 = ns.head? := by
          rw [hp59]
          have hh := q_find_ge (z := q_z S') (c := (0 : Int32).toInt) (pre := []) (post := ns) (fun b hb => nomatch hb) (fun b hb => by rw [q_row_z (hrwS b hb).1, q_i0]; omega)
          exact hh
        have hfl9 : q_flg S' rows (fun z => ∃ r ∈ ns, z = zf r) := fun z ⟨r, hr, e⟩ a ha => hfl9 z (by have := (hzf r hr).2; omega) a ha
        refine q_astore (r := r59) (lv' := [(5, va_rf (r59)), (4, .int (mt)), (3, .int (0)), (0, va_rf (some h)), (1, .int (nI sh)), (2, .int (nI m9))]) C dX2_wrongThings_62 hl (by decide) (q_k0 (q_kC 1 rfl (by decide) rfl (q_kN 2 rfl (by decide) (by decide) (q_kN 3 rfl (by decide) (by decide) (q_kN 4 rfl (by decide) (by decide) (q_kN 5 rfl (by decide) (by decide) q_kz)))))) (fun ls hl => ?_)
        refine lv_iconst (v := 0) C.1 C.2.1 dX2_wrongThings_64 (by decide) ?_
        refine q_istore (x := 0) (lv' := [(6, .int (0)), (5, va_rf (r59)), (4, .int (mt)), (3, .int (0)), (0, va_rf (some h)), (1, .int (nI sh)), (2, .int (nI m9))]) C dX2_wrongThings_65 hl (by decide) (q_k0 (q_kC 0 rfl (by decide) (q_cat _) (q_kN 1 rfl (by decide) (by decide) (q_kN 2 rfl (by decide) (by decide) (q_kN 3 rfl (by decide) (by decide) (q_kN 4 rfl (by decide) (by decide) (q_kN 5 rfl (by decide) (by decide) q_kz))))))) (fun ls hl => ?_)
        exact loop2 (ns.length + 1) _ _ 0 0 (q_l1 rows 61).length [] ns S' H locs ls (Nat.lt_succ_self _) hV hl hsS rfl hp59 hmt (by rw [hsh]) nI_0.symm rfl hfl9 hpw9 hrwS hfS
      · have hj61 : j < 61 := by
          rcases Nat.lt_or_ge j 61 with h | h
          · exact h
          · exact absurd (by rw [hi5]; exact nI_le h (by omega)) c15
        obtain ⟨r9, hB9, hrow⟩ := hsS.2.2.1 j hj61
        have hL_ar := hsS.2.1.1
        have hK_ar := hsS.2.1.2.1
        have hN_ar : S'.N ar < 2 ^ 31 := by rw [hsS.2.1.2.2]; decide
        have hL_r9 := hrow.1
        have hK_r9 := hrow.2.1
        refine lv_iload_n C.1 C.2.1 dX2_wrongThings_18 rfl (lv_at hl 2 rfl) ?_
        refine q_aload_n (r := some h) C dX2_wrongThings_19 rfl (lv_at hl 3 rfl) ?_
        refine g_Shelves_small C hV hL_h hK_h (Or.inl wd_97) dX2_wrongThings_20 ?_
        refine q_tr (v' := some ar) (hsS.1.2.2.1) ?_
        refine lv_iload C.1 C.2.1 dX2_wrongThings_23 (lv_at hl 0 rfl) ?_
        refine q_aald (j := j) C hV hL_ar hK_ar (hi5) (by rw [hsS.2.1.2.2]; exact hj61) (hN_ar) dX2_wrongThings_25 ?_
        refine q_tr (v' := some r9) (hB9) ?_
        refine lv_iload_n C.1 C.2.1 dX2_wrongThings_26 rfl (lv_at hl 5 rfl) ?_
        refine q_ci hV (q_rS (As := [va_rf (some r9), .int (nI m9)]) (rest := [.int (0)]) C hV (c_Shelves_wrongInRow l E S' r9 m9 (j + 3) (rows (j + 3)) hL_r9 hK_r9 hrow.2.2.1 hrow.2.2.2.2 (fun b hb => ⟨(hsS.2.2.2.2.2.2 _ b hb).1, (hsS.2.2.2.2.2.2 _ b hb).2.1, (hsS.2.2.2.2.2.2 _ b hb).2.2.1, hfl9 _ (by omega) b hb⟩) (hpw9 _) (hlen _) hm2) wd_248 wd_246 wd_247 wd_38 ok_X2_wrongInRow ⟨rfl, rfl, Nat.le_of_ble_eq_true rfl, Nat.le_of_ble_eq_true rfl⟩ rfl hl.1 rfl (q_sm (q_1c rfl q_1n) (Nat.le_of_ble_eq_true rfl)) dX2_wrongThings_27 ⟨Nat.le_of_ble_eq_true rfl, Nat.le_of_ble_eq_true rfl⟩) (fun i27 S27 H locs hp27 hV => ?_)
        obtain ⟨rfl, hf27⟩ := hp27
        have hs3 := q_sh_c3 hsS hf27
        have hpw3 := q_pw_fr hsS hf27 hpw9
        have hL_hb := hs3.1.1
        have hK_hb := hs3.1.2.1
        have hL_arb := hs3.2.1.1
        have hK_arb := hs3.2.1.2.1
        have hN_arb : S27.N ar < 2 ^ 31 := by rw [hs3.2.1.2.2]; decide
        have hrow3 : q_row S27 rows (j + 3) r9 := q_row_fr hrow hf27 (fun e => absurd e.1 (by decide)) id (fun p hp => ⟨(hsS.2.2.2.2.2.2 _ p hp).1, id⟩) rfl
        have hB9b : S27.B ar j = some r9 := by rw [(hf27.1 ar hL_ar).2.2.2.2]; exact hB9
        have hfl3 : q_flg S27 rows (fun z => j + 1 + 3 ≤ z) := q_flg_fr hsS hf27 hfl9 (fun z hz => ⟨by omega, by omega⟩)
        refine lv_iadd C.1 C.2.1 dX2_wrongThings_30 ?_
        refine q_ti (v' := 0) (by decide) ?_
        refine q_istore_n (x := 0) (lv' := [(3, .int (0)), (5, .int (i5)), (4, .int (mt)), (0, va_rf (some h)), (1, .int (nI sh)), (2, .int (nI m9))]) C dX2_wrongThings_31 rfl hl (by decide) (q_k0 (q_kN 0 rfl (by decide) (by decide) (q_kN 1 rfl (by decide) (by decide) (q_kN 3 rfl (by decide) (by decide) (q_kN 4 rfl (by decide) (by decide) (q_kC 5 rfl (by decide) rfl q_kz)))))) (fun ls hl => ?_)
        refine lv_iload C.1 C.2.1 dX2_wrongThings_32 (lv_at hl 2 rfl) ?_
        refine q_aload_n (r := some h) C dX2_wrongThings_34 rfl (lv_at hl 3 rfl) ?_
        refine g_Shelves_small C hV hL_hb hK_hb (Or.inl wd_97) dX2_wrongThings_35 ?_
        refine q_tr (v' := some ar) (hs3.1.2.2.1) ?_
        refine lv_iload C.1 C.2.1 dX2_wrongThings_38 (lv_at hl 1 rfl) ?_
        refine q_aald (j := j) C hV hL_arb hK_arb (hi5) (by rw [hs3.2.1.2.2]; exact hj61) (hN_arb) dX2_wrongThings_40 ?_
        refine q_tr (v' := some r9) (hB9b) ?_
        refine lv_iload_n C.1 C.2.1 dX2_wrongThings_41 rfl (lv_at hl 5 rfl) ?_
        refine q_ci hV (q_rS (As := [va_rf (some r9), .int (nI m9)]) (rest := [.int (mt)]) C hV (c_Shelves_piecesIn l E S27 r9 m9 (rows (j + 3)) (hrow3).1 hrow3.2.1 hrow3.2.2.2.2 (fun b hb => ⟨(hs3.2.2.2.2.2.2 _ b hb).1, (hs3.2.2.2.2.2.2 _ b hb).2.1⟩) (hlen _) hm2) wd_251 wd_249 wd_250 wd_38 ok_X2_piecesIn ⟨rfl, rfl, Nat.le_of_ble_eq_true rfl, Nat.le_of_ble_eq_true rfl⟩ rfl hl.1 rfl (q_sm (q_1c rfl q_1n) (Nat.le_of_ble_eq_true rfl)) dX2_wrongThings_42 ⟨Nat.le_of_ble_eq_true rfl, Nat.le_of_ble_eq_true rfl⟩) (fun i42 S42 H locs hp42 hV => ?_)
        obtain ⟨eS42, hp42⟩ := hp42
        rw [eS42] at hV
        subst hp42
        refine lv_iadd C.1 C.2.1 dX2_wrongThings_45 ?_
        refine q_istore (x := mt + (nI (rows (j + 3)).length)) (lv' := [(4, .int (mt + (nI (rows (j + 3)).length))), (3, .int (0)), (5, .int (i5)), (0, va_rf (some h)), (1, .int (nI sh)), (2, .int (nI m9))]) C dX2_wrongThings_46 hl (by decide) (q_k0 (q_kC 0 rfl (by decide) rfl (q_kN 1 rfl (by decide) (by decide) (q_kN 3 rfl (by decide) (by decide) (q_kN 4 rfl (by decide) (by decide) (q_kN 5 rfl (by decide) (by decide) q_kz)))))) (fun ls hl => ?_)
        obtain ⟨i48, e48⟩ : ∃ y : Int32, y = i5 + 1 := ⟨_, rfl⟩
        refine q_iinc (v := i48) (k := 2) (lv' := [(5, .int (i48)), (4, .int (mt + (nI (rows (j + 3)).length))), (3, .int (0)), (0, va_rf (some h)), (1, .int (nI sh)), (2, .int (nI m9))]) C dX2_wrongThings_48 hl rfl (by rw [e48]; rfl) (by decide) (q_k0 (q_kC 0 rfl (by decide) rfl (q_kN 1 rfl (by decide) (by decide) (q_kN 3 rfl (by decide) (by decide) (q_kN 4 rfl (by decide) (by decide) (q_kN 5 rfl (by decide) (by decide) q_kz)))))) (fun ls hl => ?_)
        refine lv_goto (tgt := 8) C.1 C.2.1 dX2_wrongThings_51 (by decide) ?_
        exact ih i48 _ (j + 1) S27 H locs ls (by omega) hV hl hs3 (by rw [e48, hi5]; exact nI_1 j) (by omega) (by rw [hmt]; simp only [q_l1, List.length_append]; exact nI_add _ _) hfl3 hpw3 (q_fr_tr hfS (q_c3_any hf27))
  refine lv_iconst (v := 0) C.1 C.2.1 dX2_wrongThings_0 (by decide) ?_
  refine q_istore_n (x := 0) (lv' := [(3, .int (0)), (0, va_rf (some h)), (1, .int (nI sh)), (2, .int (nI m9))]) C dX2_wrongThings_1 rfl hl (by decide) (q_k0 (q_kN 0 rfl (by decide) (by decide) (q_kN 1 rfl (by decide) (by decide) (q_kC 2 rfl (by decide) rfl q_kz)))) (fun ls hl => ?_)
  refine lv_iconst (v := 0) C.1 C.2.1 dX2_wrongThings_2 (by decide) ?_
  refine q_istore (x := 0) (lv' := [(4, .int (0)), (3, .int (0)), (0, va_rf (some h)), (1, .int (nI sh)), (2, .int (nI m9))]) C dX2_wrongThings_3 hl (by decide) (q_k0 (q_kC 0 rfl (by decide) rfl (q_kN 1 rfl (by decide) (by decide) (q_kN 2 rfl (by decide) (by decide) (q_kN 3 rfl (by decide) (by decide) q_kz))))) (fun ls hl => ?_)
  refine lv_iconst (v := 0) C.1 C.2.1 dX2_wrongThings_5 (by decide) ?_
  refine q_istore (x := 0) (lv' := [(5, .int (0)), (4, .int (0)), (3, .int (0)), (0, va_rf (some h)), (1, .int (nI sh)), (2, .int (nI m9))]) C dX2_wrongThings_6 hl (by decide) (q_k0 (q_kC 0 rfl (by decide) rfl (q_kN 1 rfl (by decide) (by decide) (q_kN 2 rfl (by decide) (by decide) (q_kN 3 rfl (by decide) (by decide) (q_kN 4 rfl (by decide) (by decide) q_kz)))))) (fun ls hl => ?_)
  exact loop1 62 0 0 0 S s.heap [] ls (by omega) hV hl hs nI_0.symm (by omega) nI_0.symm (fun z _ a ha => hfl z trivial a ha) hpw q_fr_rf
theorem c_Shelves_wrongThings (l : Launch) (E : qE) (S : qS) (h ar t sh m9 : Nat) (ns : List Nat) (rows : Nat → List Nat) (zf : Nat → Nat) (hs : q_sh S h ar t ns rows) (hne : q_ne S ns rows) (hzf : ∀ r ∈ ns, q_row S rows (zf r) r ∧ 64 ≤ zf r) (hfl : q_flg S rows (fun _ => True)) (hpw : ∀ z, (rows z).Pairwise (fun a b => (S.J 0 b).toInt < (S.J 0 a).toInt)) (hlen : ∀ z, (rows z).length ≤ m9) (hnl : ns.length ≤ m9) (hm2 : m9 < 2 ^ 31) (hz9 : ∀ z, rows z ≠ [] → z ≤ 16384) (hsh : sh = (q_l1 rows 61).length + (q_l2 rows zf ns).length) : q_Mi l yX2_wrongThings cX2_wrongThings 7 .int { frames := 1, cells := 0, slots := 0, locals := 24 } E [.ref h, .int (nI sh), .int (nI m9)] S (fun r S1 => r = 0 ∧ q_fr S S1 (fun j _ => j = 3) q_c0 q_c0) 0 0 := c0_Shelves_wrongThings l E S h ar t sh m9 ns rows zf hs hne hzf hfl hpw hlen hnl hm2 hz9 hsh _ (fun _ _ h => h)
end
section
/-! the rows hold each shelved piece once -/
theorem q_rw_one {S : qS} {c n fails tm : Nat} {P : List q_X} {h ar t : Nat} {ns : List Nat} {rows : Nat → List Nat} (hC : q_C S c n fails tm P h ar t ns rows) {z z' a : Nat} (h1 : a ∈ rows z) (h2 : a ∈ rows z') : z = z' := by
  obtain ⟨-, x, hx, e1, e2, -⟩ := (hC.2.2.2.2.2.2.1.1 z a).mp h1
  obtain ⟨-, x', hx', e1', e2', -⟩ := (hC.2.2.2.2.2.2.1.1 z' a).mp h2
  rw [← e2, ← e2', q_nd_eq (q_line_nd hC.1) hx hx' (e1.trans e1'.symm)]
theorem q_l1_mem {rows : Nat → List Nat} : ∀ {i a : Nat}, a ∈ q_l1 rows i ↔ ∃ z, 3 ≤ z ∧ z < i + 3 ∧ a ∈ rows z := by
  intro i
  induction i with
  | zero => intro a; exact ⟨fun h => (nomatch h), fun ⟨z, h1, h2, _⟩ => by omega⟩
  | succ i ih =>
    intro a
    rw [q_l1, List.mem_append, ih]
    constructor
    · rintro (⟨z, h1, h2, h3⟩ | h)
      · exact ⟨z, h1, by omega, h3⟩
      · exact ⟨i + 3, by omega, by omega, h⟩
    · rintro ⟨z, h1, h2, h3⟩
      rcases Nat.lt_or_ge z (i + 3) with h | h
      · exact Or.inl ⟨z, h1, h, h3⟩
      · have : z = i + 3 := by omega
        exact Or.inr (this ▸ h3)
theorem q_l2_mem {rows : Nat → List Nat} {zf : Nat → Nat} : ∀ {ns : List Nat} {a : Nat}, a ∈ q_l2 rows zf ns ↔ ∃ r ∈ ns, a ∈ rows (zf r) := by
  intro ns
  induction ns with
  | nil => intro a; exact ⟨fun h => (nomatch h), fun ⟨r, h, _⟩ => (nomatch h)⟩
  | cons r ns ih => intro a; rw [q_l2, List.mem_append, ih]; simp
theorem q_l1_nd {rows : Nat → List Nat} (hn : ∀ z, (rows z).Nodup) (hd : ∀ z z' a, a ∈ rows z → a ∈ rows z' → z = z') : ∀ i, (q_l1 rows i).Nodup := by
  intro i
  induction i with
  | zero => exact List.nodup_nil
  | succ i ih =>
    refine List.nodup_append.mpr ⟨ih, hn _, fun a ha b hb e => ?_⟩
    obtain ⟨z, h1, h2, h3⟩ := q_l1_mem.mp ha
    have := hd _ _ _ h3 (e ▸ hb)
    omega
theorem q_l2_nd {rows : Nat → List Nat} {zf : Nat → Nat} (hn : ∀ z, (rows z).Nodup) (hd : ∀ z z' a, a ∈ rows z → a ∈ rows z' → z = z') : ∀ {ns : List Nat}, ns.Nodup → (∀ r ∈ ns, ∀ r' ∈ ns, zf r = zf r' → r = r') → (q_l2 rows zf ns).Nodup := by
  intro ns
  induction ns with
  | nil => intro _ _; exact List.nodup_nil
  | cons r ns ih =>
    intro h1 h2
    have h3 := List.nodup_cons.mp h1
    refine List.nodup_append.mpr ⟨hn _, ih h3.2 (fun a ha b hb => h2 a (List.mem_cons_of_mem _ ha) b (List.mem_cons_of_mem _ hb)), fun a ha b hb e => ?_⟩
    obtain ⟨r', hr', hb'⟩ := q_l2_mem.mp hb
    have := h2 r List.mem_cons_self r' (List.mem_cons_of_mem _ hr') (hd _ _ _ (e ▸ ha) hb')
    exact h3.1 (this ▸ hr')
theorem q_l2_len {rows : Nat → List Nat} {zf : Nat → Nat} : ∀ {ns : List Nat}, (∀ r ∈ ns, rows (zf r) ≠ []) → ns.length ≤ (q_l2 rows zf ns).length := by
  intro ns
  induction ns with
  | nil => intro _; exact Nat.le_refl _
  | cons r ns ih =>
    intro h
    have h1 := ih (fun a ha => h a (List.mem_cons_of_mem _ ha))
    have h2 := List.length_pos_iff.mpr (h r List.mem_cons_self)
    simp only [q_l2, List.length_append, List.length_cons]
    omega
theorem q_ca_le (L : List Nat) : ∀ (P : List q_X), q_ca L P ≤ P.length := by
  intro P
  induction P with
  | nil => exact Nat.le_refl _
  | cons y P ih => simp only [q_ca, List.length_cons]; split <;> omega
theorem q_rw_len {S : qS} {c n fails tm : Nat} {P : List q_X} {h ar t : Nat} {ns : List Nat} {rows : Nat → List Nat} (hC : q_C S c n fails tm P h ar t ns rows) (z : Nat) : (rows z).length ≤ n ∧ (rows z ≠ [] → z ≤ 16384) := by
  have c7 := hC.2.2.2.2.2.2.1
  constructor
  · rw [← q_ca_len (q_line_nd hC.1) (q_rws_nd c7 z) (fun a ha => by obtain ⟨-, y, hy, e, -⟩ := (c7.1 z a).mp ha; exact ⟨y, hy, e⟩)]
    exact Nat.le_trans (q_ca_le _ _) (q_line_len hC.1)
  · intro hne
    obtain ⟨a, ha⟩ := List.exists_mem_of_ne_nil _ hne
    obtain ⟨-, y, hy, -, e, -⟩ := (c7.1 z a).mp ha
    have h1 := q_sz_mem hy
    rw [hC.1.2.2.2.2.2.1] at h1
    have := hC.1.2.2.2.2.2.2.1
    omega
abbrev q_zf (S : qS) : Nat → Nat := fun r => (q_z S r).toNat
theorem q_ns_row {S : qS} {c n fails tm : Nat} {P : List q_X} {h ar t : Nat} {ns : List Nat} {rows : Nat → List Nat} (hC : q_C S c n fails tm P h ar t ns rows) : ∀ r ∈ ns, q_row S rows (q_zf S r) r ∧ 64 ≤ q_zf S r := fun r hr => by
  obtain ⟨z, hz, hrow⟩ := hC.2.2.2.1.2.2.2.2.1 r hr
  have e : q_zf S r = z := by show (q_z S r).toNat = z; rw [q_row_z hrow]; simp
  rw [e]; exact ⟨hrow, hz⟩
theorem q_total {S : qS} {c n fails tm : Nat} {P : List q_X} {h ar t : Nat} {ns : List Nat} {rows : Nat → List Nat} (hC : q_C S c n fails tm P h ar t ns rows) : q_cn q_f3 (q_vl P) = (q_l1 rows 61).length + (q_l2 rows (q_zf S) ns).length ∧ ns.length ≤ n := by
  have c7 := hC.2.2.2.2.2.2.1
  have hnd := q_line_nd hC.1
  have hso := hC.2.2.2.1.2.2.2.1.2.2.2.2
  have hd : ∀ z z' a, a ∈ rows z → a ∈ rows z' → z = z' := fun z z' a h1 h2 => q_rw_one hC h1 h2
  have hn : ∀ z, (rows z).Nodup := q_rws_nd c7
  have hrow := q_ns_row hC
  have hinj : ∀ r ∈ ns, ∀ r' ∈ ns, q_zf S r = q_zf S r' → r = r' := fun r hr r' hr' e => q_so_inj hso hr hr' (by rw [q_row_z (hrow r hr).1, q_row_z (hrow r' hr').1, e])
  have hL : (q_l1 rows 61 ++ q_l2 rows (q_zf S) ns).Nodup := by
    refine List.nodup_append.mpr ⟨q_l1_nd hn hd _, q_l2_nd hn hd (q_so_nodup hso) hinj, fun a ha b hb e => ?_⟩
    obtain ⟨z, h1, h2, h3⟩ := q_l1_mem.mp ha
    obtain ⟨r, hr, h4⟩ := q_l2_mem.mp hb
    have h5 := hd _ _ _ h3 (e ▸ h4)
    have h6 := (hrow r hr).2
    omega
  have hsub : ∀ a ∈ q_l1 rows 61 ++ q_l2 rows (q_zf S) ns, ∃ z, a ∈ rows z := fun a ha => by
    rcases List.mem_append.mp ha with ha | ha
    · obtain ⟨z, -, -, h3⟩ := q_l1_mem.mp ha; exact ⟨z, h3⟩
    · obtain ⟨r, -, h3⟩ := q_l2_mem.mp ha; exact ⟨_, h3⟩
  have e1 : q_cn q_f3 (q_vl P) = q_ca (q_l1 rows 61 ++ q_l2 rows (q_zf S) ns) P := by
    apply q_cn_ca
    intro y hy
    unfold q_f3
    by_cases hc : y.2.2.1 = true ∧ 3 ≤ y.2.1
    · rw [if_pos hc, if_pos]
      have hin : y.1 ∈ rows y.2.1 := (c7.1 _ _).mpr ⟨hc.2, y, hy, rfl, rfl, hc.1⟩
      rcases Nat.lt_or_ge y.2.1 64 with h1 | h1
      · exact List.mem_append_left _ (q_l1_mem.mpr ⟨_, hc.2, by omega, hin⟩)
      · obtain ⟨r, hr, hrr⟩ := hC.2.2.2.1.2.2.2.2.2.1 y.2.1 h1 (List.ne_nil_of_mem hin)
        exact List.mem_append_right _ (q_l2_mem.mpr ⟨r, hr, by rw [q_row_one (hrow r hr).1 hrr]; exact hin⟩)
    · rw [if_neg hc, if_neg]
      intro h9
      obtain ⟨z, hz⟩ := hsub _ h9
      obtain ⟨h3, x, hx, e1, e2, e3⟩ := (c7.1 z y.1).mp hz
      have e := q_nd_eq hnd hx hy e1
      subst e
      exact hc ⟨e3, by omega⟩
  have e2 := q_ca_len hnd hL (fun a ha => by obtain ⟨z, hz⟩ := hsub a ha; obtain ⟨-, y, hy, e, -⟩ := (c7.1 z a).mp hz; exact ⟨y, hy, e⟩)
  have e3 := q_ca_le (q_l1 rows 61 ++ q_l2 rows (q_zf S) ns) P
  rw [e2, List.length_append] at e3
  refine ⟨by rw [e1, e2, List.length_append], ?_⟩
  have h1 := q_l2_len (rows := rows) (zf := q_zf S) (ns := ns) (fun r hr => hC.2.2.2.2.1 r hr)
  have h2 := q_line_len hC.1
  omega
def q_fw (x : q_X) : Int32 := if x.2.2.1 = true ∧ 3 ≤ x.2.1 then 1 else 0
theorem q_fw_is {S : qS} {x : q_X} (h1 : S.I 1 x.1 = nI x.2.1) (h2 : S.I 2 x.1 = q_fl x.2.2.1) (hz : x.2.1 ≤ 16384) : (if ¬ S.I 2 x.1 = 0 ∧ 3 ≤ S.I 1 x.1 then (1 : Int32) else 0) = q_fw x := by
  have hiff : (¬ S.I 2 x.1 = 0 ∧ 3 ≤ S.I 1 x.1) ↔ (x.2.2.1 = true ∧ 3 ≤ x.2.1) := by
    rw [h1, h2, q_fl0, show (3 : Int32) = nI 3 from by decide, nI_leI (by omega) (by omega)]
    cases x.2.2.1 <;> simp
  unfold q_fw
  by_cases hc : x.2.2.1 = true ∧ 3 ≤ x.2.1
  · rw [if_pos (hiff.mpr hc), if_pos hc]
  · rw [if_neg (fun z => hc (hiff.mp z)), if_neg hc]
theorem q_cn_app (f : Nat × Bool × Nat → Nat) : ∀ (A B : v_V), q_cn f (A ++ B) = q_cn f A + q_cn f B := by
  intro A B
  induction A with
  | nil => simp [q_cn]
  | cons x A ih => simp only [List.cons_append, q_cn, ih]; omega
theorem q_f3_fw (x : q_X) : (q_f3 x.2 = 1 ∧ ¬ q_fw x = 0) ∨ (q_f3 x.2 = 0 ∧ q_fw x = 0) := by
  unfold q_f3 q_fw
  by_cases hc : x.2.2.1 = true ∧ 3 ≤ x.2.1
  · rw [if_pos hc, if_pos hc]; exact Or.inl ⟨rfl, by decide⟩
  · rw [if_neg hc, if_neg hc]; exact Or.inr ⟨rfl, rfl⟩
set_option maxHeartbeats 4000000 in
set_option maxRecDepth 100000 in
theorem c0_Shelf_faults (l : Launch) (E : qE) (S : qS) (c9 h ar t n9 f9 tm : Nat) (P : List q_X) (ns : List Nat) (rows : Nat → List Nat) (hC : q_C S c9 n9 f9 tm P h ar t ns rows) (hu : ∀ x ∈ P, x.2.2.1 = false → 3 ≤ x.2.1) (post : Int32 → qS → Prop) (hpost : ∀ r S1, (r = 0 ∧ q_CC S1 c9 n9 f9 tm P h ar t ∧ q_fk S S1) → post r S1) : q_Mi l yX4_faults cX4_faults 6 .int { frames := 2, cells := 0, slots := 0, locals := 50 } E [.ref c9] S (post) 0 0 := by
  refine q_ofW1 (by decide) (q_1c rfl q_1n) (Nat.le_of_ble_eq_true rfl) (fun p e s m below meth c C hV hr hlk hnm ls hl => ?_)
  have hl : lv_has ls 6 [(0, va_rf (some c9))] := hl
  obtain ⟨hL_c9, hK_c9, hR8, hL_h, hK_h, hJ⟩ := q_C_cl hC
  have loop : ∀ (k : Nat) (pp : Option Nat) (i5 sh du : Int32) (D R : List q_X) (S' : qS) (H : Heap) (locs : List Loc) (ls : Array Slot), R.length < k → q_V E s S' H locs → lv_has ls 6 [(5, .int (i5)), (4, va_rf (pp)), (3, .int (sh)), (2, .int (du)), (1, .int (0)), (0, va_rf (some c9))] → q_C S' c9 n9 f9 tm P h ar t ns rows → D ++ R = P → q_ch (S'.R 0) pp (q_ad R) → i5 = nI D.length → sh = nI (q_cn q_f3 (q_vl D)) → du = nI (1 + q_sz D) → (∀ x ∈ D, S'.I 3 x.1 = q_fw x) → q_fr S S' (fun j _ => j = 3) q_c0 q_c0 → W p l e ({ frames := 2, cells := 0, slots := 0, locals := 50 } : Room) s m [.ref c9].toArray below meth c H locs (0) (0) (MQ below (va_Qi (post) (q_B E) E.A) [.ref c9].toArray s (0) (0) E.A) (F0 m 15 ls []) := by
    intro k
    induction k with
    | zero => intro pp i5 sh du D R S' H locs ls hk; exact absurd hk (Nat.not_lt_zero _)
    | succ k ih =>
      intro pp i5 sh du D R S' H locs ls hk hV hl hC9 hDR hch hi5 hsh hdu hfl9 hfS
      have hL_c9 := hC9.1.1
      have hK_c9 := hC9.1.2.1
      refine q_aload (r := pp) C dX4_faults_15 (lv_at hl 1 rfl) ?_
      refine q_ifnull (r := pp) (tgt := 121) C dX4_faults_17 (by decide) (fun c17 => ?_) (fun x17 c17 => ?_)
      · subst c17
        have hRe : R = [] := by cases R with
          | nil => rfl
          | cons y R2 => exact nomatch hch.1
        subst hRe
        rw [List.append_nil] at hDR
        subst hDR
        have hflg : q_flg S' rows (fun _ => True) := fun z _ a ha => by
          obtain ⟨h3, x, hx, e1, e2, e3⟩ := (hC9.2.2.2.2.2.2.1.1 z a).mp ha
          rw [← e1, hfl9 x hx, q_fw, if_pos ⟨e3, by omega⟩]
        have hL_c9 := hC9.1.1
        have hK_c9 := hC9.1.2.1
        have hL_h := hC9.2.2.2.1.1.1
        have hK_h := hC9.2.2.2.1.1.2.1
        refine q_aload (r := none) C dX4_faults_121 (lv_at hl 1 rfl) ?_
        refine q_ifnonnull (r := none) (tgt := 136) C dX4_faults_123 (by decide) (fun _ h => nomatch h) (fun _ => ?_)
        refine lv_iload_n C.1 C.2.1 dX4_faults_126 rfl (lv_at hl 3 rfl) ?_
        refine q_aload_n (r := some c9) C dX4_faults_127 rfl (lv_at hl 5 rfl) ?_
        refine g_Shelf_cellCount C hV hL_c9 hK_c9 (Or.inl wd_179) dX4_faults_128 ?_
        refine q_ti (v' := nI n9) (hC9.1.2.2.1) ?_
        refine lv_iconst (v := 1) C.1 C.2.1 dX4_faults_131 (by decide) ?_
        refine lv_iadd C.1 C.2.1 dX4_faults_132 ?_
        refine lv_icmp_eq (tgt := 139) C.1 C.2.1 dX4_faults_133 (by decide) (fun c133 => ?_) (fun c133 => ?_)
        · subst hsh
          refine lv_iload_n C.1 C.2.1 dX4_faults_139 rfl (lv_at hl 4 rfl) ?_
          refine q_aload_n (r := some c9) C dX4_faults_140 rfl (lv_at hl 5 rfl) ?_
          refine g_Shelf_shelves C hV hL_c9 hK_c9 (Or.inl wd_177) dX4_faults_141 ?_
          refine q_tr (v' := some h) (hC9.2.1) ?_
          refine lv_iload_n C.1 C.2.1 dX4_faults_144 rfl (lv_at hl 2 rfl) ?_
          refine q_aload_n (r := some c9) C dX4_faults_145 rfl (lv_at hl 5 rfl) ?_
          refine g_Shelf_cellCount C hV hL_c9 hK_c9 (Or.inl wd_179) dX4_faults_146 ?_
          refine q_ti (v' := nI n9) (hC9.1.2.2.1) ?_
          refine q_ci hV (q_rN (b := h) (As := [.int (nI (q_cn q_f3 (q_vl D))), .int (nI n9)]) (rest := [.int (0)]) C hV (c_Shelves_wrongThings l E S' h ar t (q_cn q_f3 (q_vl D)) n9 ns rows (q_zf S') hC9.2.2.2.1 hC9.2.2.2.2.1 (q_ns_row hC9) hflg hC9.2.2.2.2.2.2.1.2 (fun z => (q_rw_len hC9 z).1) (q_total hC9).2 (by have := hC9.1.2.2.2.2.2.2.1; omega) (fun z => (q_rw_len hC9 z).2) (q_total hC9).1) wd_245 wd_242 wd_244 wd_16 wd_38 ok_X2_wrongThings ⟨rfl, rfl, Nat.le_of_ble_eq_true rfl, Nat.le_of_ble_eq_true rfl⟩ (q_rc2 hV hL_h hK_h) rfl hl.1 rfl (q_sm (q_1c rfl q_1n) (Nat.le_of_ble_eq_true rfl)) dX4_faults_149 ⟨Nat.le_of_ble_eq_true rfl, Nat.le_of_ble_eq_true rfl⟩) (fun i149 S149 H locs hp149 hV => ?_)
          obtain ⟨rfl, hf149⟩ := hp149
          refine lv_iadd C.1 C.2.1 dX4_faults_152 ?_
          refine q_iret (v := 0 + 0) C hV hr hlk (Nat.le_of_ble_eq_true rfl) (Nat.le_of_ble_eq_true rfl) dX4_faults_153 ?_
          refine hpost _ _ ⟨by decide, ⟨ns, rows, ?_⟩, q_fr_tr (q_fr_mo hfS (fun j _ z => by rw [z]; exact Nat.le_of_ble_eq_true rfl) (fun _ _ z => z.elim) (fun _ _ z => z.elim)) (q_fr_mo hf149 (fun j _ z => by rw [z]; exact Nat.le_of_ble_eq_true rfl) (fun _ _ z => z.elim) (fun _ _ z => z.elim))⟩
          exact q_C_fr hC9 hf149 (fun j x z => Or.inl z) (fun _ _ z => z.elim) (fun _ _ z => z) ((hf149.2.1 c9 hC9.1.1 6 (fun e => absurd (show (6 : Nat) = 3 from e) (by decide))).trans hC9.2.2.1)
        · exfalso
          refine c133 ?_
          rw [hdu, hC9.1.2.2.2.2.2.1, nI_1, Nat.add_comm]
      · subst c17
        obtain ⟨y, R2, hRe, hyp⟩ : ∃ y R2, R = y :: R2 ∧ y.1 = x17 := by
          cases R with
          | nil => exact nomatch (show some x17 = none from hch)
          | cons y R2 => exact ⟨y, R2, rfl, (Option.some.inj hch.1).symm⟩
        subst hRe
        subst hyp
        have hCy : q_C S' c9 n9 f9 tm (D ++ y :: R2) h ar t ns rows := by rw [hDR]; exact hC9
        obtain ⟨hL_y, hK_y, hI0y, hI1y, hI2y, -, hy1, hszy, hn9⟩ := q_C_at hCy
        have hyP : y ∈ P := by rw [← hDR]; simp
        have hlen : D.length < n9 := by have := q_line_len hC9.1; rw [← hDR] at this; simp at this; omega
        refine lv_iload C.1 C.2.1 dX4_faults_20 (lv_at hl 0 rfl) ?_
        refine q_aload_n (r := some c9) C dX4_faults_22 rfl (lv_at hl 5 rfl) ?_
        refine g_Shelf_cellCount C hV hL_c9 hK_c9 (Or.inl wd_179) dX4_faults_23 ?_
        refine q_ti (v' := nI n9) (hC9.1.2.2.1) ?_
        refine lv_icmp_ge (tgt := 121) C.1 C.2.1 dX4_faults_26 (by decide) (fun c26 => ?_) (fun c26 => ?_)
        · exfalso
          exact absurd (hi5 ▸ c26) (nI_ge hlen (by omega))
        · refine q_aload (r := some y.1) C dX4_faults_29 (lv_at hl 1 rfl) ?_
          refine g_Piece_at C hV hL_y hK_y (Or.inr ⟨_, wd_122⟩) dX4_faults_31 ?_
          refine q_ti (v' := nI (1 + q_sz D)) (hI0y) ?_
          refine lv_iload_n C.1 C.2.1 dX4_faults_34 rfl (lv_at hl 3 rfl) ?_
          refine lv_icmp_eq (tgt := 41) C.1 C.2.1 dX4_faults_35 (by decide) (fun c35 => ?_) (fun c35 => ?_)
          · refine q_aload (r := some y.1) C dX4_faults_41 (lv_at hl 1 rfl) ?_
            refine g_Piece_cells C hV hL_y hK_y (Or.inr ⟨_, wd_124⟩) dX4_faults_43 ?_
            refine q_ti (v' := nI y.2.1) (hI1y) ?_
            refine lv_iconst (v := 1) C.1 C.2.1 dX4_faults_46 (by decide) ?_
            refine lv_icmp_lt (tgt := 67) C.1 C.2.1 dX4_faults_47 (by decide) (fun c47 => ?_) (fun c47 => ?_)
            · exfalso
              exact absurd ((nI_ltI (by omega) (by omega)).mp (show nI y.2.1 < nI 1 from c47)) (by omega)
            · refine q_aload (r := some y.1) C dX4_faults_50 (lv_at hl 1 rfl) ?_
              refine g_Piece_isFree C hV hL_y hK_y (Or.inr ⟨_, wd_127⟩) dX4_faults_52 ?_
              refine q_ti (v' := q_fl y.2.2.1) (hI2y) ?_
              refine lv_if_ne (tgt := 70) C.1 C.2.1 dX4_faults_55 (by decide) (fun c55 => ?_) (fun c55 => ?_)
              · refine q_aload (r := some y.1) C dX4_faults_70 (lv_at hl 1 rfl) ?_
                refine q_aload (r := some y.1) C dX4_faults_72 (lv_at hl 1 rfl) ?_
                refine q_ci hV (q_rN (b := y.1) (As := []) (rest := [va_rf (some y.1)]) C hV (c_Piece_isShelved l E S' y.1 hL_y hK_y) wd_241 wd_238 wd_240 wd_15 wd_41 ok_X0_isShelved ⟨rfl, rfl, Nat.le_of_ble_eq_true rfl, Nat.le_of_ble_eq_true rfl⟩ (q_rc0 hV hL_y hK_y) rfl hl.1 rfl (q_sm (q_1c (q_cat _) q_1n) (Nat.le_of_ble_eq_true rfl)) dX4_faults_74 ⟨Nat.le_of_ble_eq_true rfl, Nat.le_of_ble_eq_true rfl⟩) (fun i74 S74 H locs hp74 hV => ?_)
                obtain ⟨eS74, hp74⟩ := hp74
                rw [eS74] at hV
                rw [q_fw_is hI1y hI2y (by omega)] at hp74
                subst hp74
                refine p_Piece_awaited (v := q_fw y) C hV hL_y hK_y (by unfold q_fw; split <;> simp) (Or.inr ⟨_, wd_135⟩) dX4_faults_77 (fun H locs hV => ?_)
                obtain ⟨S7, hS7⟩ : ∃ X : qS, X = S'.sI 3 y.1 (q_fw y) := ⟨_, rfl⟩
                have hV : q_V E s S7 H locs := by rw [hS7]; exact hV
                have hf7 : q_fr S' S7 (fun j x => j = 3 ∧ x = y.1) q_c0 q_c0 := by rw [hS7]; exact q_fr_sI ⟨rfl, rfl⟩
                have hC7 : q_C S7 c9 n9 f9 tm P h ar t ns rows := q_C_fr hC9 hf7 (fun j x z => Or.inl z.1) (fun _ _ z => z.elim) (fun _ _ z => z) ((hf7.2.1 c9 hC9.1.1 6 (fun e => absurd e.1 (by decide))).trans hC9.2.2.1)
                have hC7y : q_C S7 c9 n9 f9 tm (D ++ y :: R2) h ar t ns rows := by rw [hDR]; exact hC7
                obtain ⟨hL_y7, hK_y7, hI0y7, hI1y7, -, hch7, -, -, -⟩ := q_C_at hC7y
                have hI3y7 : S7.I 3 y.1 = q_fw y := by rw [hS7]; exact qI_self _ _ _ _
                have hfl7 : ∀ x ∈ D ++ [y], S7.I 3 x.1 = q_fw x := fun x hx => by
                  rcases List.mem_append.mp hx with hx | hx
                  · have hne : x.1 ≠ y.1 := q_nd_mid (q_line_nd hCy.1) x (List.mem_append_left _ hx)
                    have hxL : x.1 ∈ S'.L := by obtain ⟨b, hb⟩ := q_pcs_mem hC9.1.2.2.2.2.1 (show x ∈ P by rw [← hDR]; exact List.mem_append_left _ hx); exact hb.1
                    rw [hf7.2.1 x.1 hxL 3 (fun e => hne e.2)]; exact hfl9 x hx
                  · rw [List.mem_singleton.mp hx]; exact hI3y7
                refine lv_iload_n C.1 C.2.1 dX4_faults_80 rfl (lv_at hl 2 rfl) ?_
                refine q_aload (r := some y.1) C dX4_faults_81 (lv_at hl 1 rfl) ?_
                refine g_Piece_awaited C hV hL_y7 hK_y7 (Or.inr ⟨_, wd_135⟩) dX4_faults_83 ?_
                refine q_ti (v' := q_fw y) (hI3y7) ?_
                refine lv_if_eq (tgt := 93) C.1 C.2.1 dX4_faults_86 (by decide) (fun c86 => ?_) (fun c86 => ?_)
                · refine lv_iconst (v := 0) C.1 C.2.1 dX4_faults_93 (by decide) ?_
                  refine lv_iadd C.1 C.2.1 dX4_faults_94 ?_
                  refine q_istore_n (x := sh + 0) (lv' := [(3, .int (sh + 0)), (5, .int (i5)), (4, va_rf (some y.1)), (2, .int (du)), (1, .int (0)), (0, va_rf (some c9))]) C dX4_faults_95 rfl hl (by decide) (q_k0 (q_kN 0 rfl (by decide) (by decide) (q_kN 1 rfl (by decide) (by decide) (q_kC 3 rfl (by decide) rfl (q_kN 4 rfl (by decide) (by decide) (q_kN 5 rfl (by decide) (by decide) q_kz)))))) (fun ls hl => ?_)
                  refine q_aload (r := some y.1) C dX4_faults_96 (lv_at hl 2 rfl) ?_
                  refine g_Piece_at C hV hL_y7 hK_y7 (Or.inr ⟨_, wd_122⟩) dX4_faults_98 ?_
                  refine q_ti (v' := nI (1 + q_sz D)) (hI0y7) ?_
                  refine q_aload (r := some y.1) C dX4_faults_101 (lv_at hl 2 rfl) ?_
                  refine g_Piece_cells C hV hL_y7 hK_y7 (Or.inr ⟨_, wd_124⟩) dX4_faults_103 ?_
                  refine q_ti (v' := nI y.2.1) (hI1y7) ?_
                  refine lv_iadd C.1 C.2.1 dX4_faults_106 ?_
                  refine q_istore_n (x := (nI (1 + q_sz D)) + (nI y.2.1)) (lv' := [(2, .int ((nI (1 + q_sz D)) + (nI y.2.1))), (3, .int (sh + 0)), (5, .int (i5)), (4, va_rf (some y.1)), (1, .int (0)), (0, va_rf (some c9))]) C dX4_faults_107 rfl hl (by decide) (q_k0 (q_kN 0 rfl (by decide) (by decide) (q_kN 1 rfl (by decide) (by decide) (q_kN 2 rfl (by decide) (by decide) (q_kC 4 rfl (by decide) rfl (q_kN 5 rfl (by decide) (by decide) q_kz)))))) (fun ls hl => ?_)
                  refine q_aload (r := some y.1) C dX4_faults_108 (lv_at hl 3 rfl) ?_
                  refine g_Piece_behind C hV hL_y7 hK_y7 (Or.inr ⟨_, wd_131⟩) dX4_faults_110 ?_
                  refine q_nr (fun r110 h110 => ?_)
                  refine q_astore (r := r110) (lv' := [(4, va_rf (r110)), (2, .int ((nI (1 + q_sz D)) + (nI y.2.1))), (3, .int (sh + 0)), (5, .int (i5)), (1, .int (0)), (0, va_rf (some c9))]) C dX4_faults_113 hl (by decide) (q_k0 (q_kN 0 rfl (by decide) (by decide) (q_kC 1 rfl (by decide) rfl (q_kN 2 rfl (by decide) (by decide) (q_kN 4 rfl (by decide) (by decide) (q_kN 5 rfl (by decide) (by decide) q_kz)))))) (fun ls hl => ?_)
                  obtain ⟨i115, e115⟩ : ∃ y : Int32, y = i5 + 1 := ⟨_, rfl⟩
                  refine q_iinc (v := i115) (k := 3) (lv' := [(5, .int (i115)), (4, va_rf (r110)), (2, .int ((nI (1 + q_sz D)) + (nI y.2.1))), (3, .int (sh + 0)), (1, .int (0)), (0, va_rf (some c9))]) C dX4_faults_115 hl rfl (by rw [e115]; rfl) (by decide) (q_k0 (q_kC 0 rfl (by decide) (q_cat _) (q_kN 1 rfl (by decide) (by decide) (q_kN 2 rfl (by decide) (by decide) (q_kN 4 rfl (by decide) (by decide) (q_kN 5 rfl (by decide) (by decide) q_kz)))))) (fun ls hl => ?_)
                  refine lv_goto (tgt := 15) C.1 C.2.1 dX4_faults_118 (by decide) ?_
                  have hsh9 : sh + 0 = nI (q_cn q_f3 (q_vl (D ++ [y]))) := by
                    rw [hsh, q_vl_app, q_cn_app]
                    rcases q_f3_fw y with ⟨h1, h2⟩ | ⟨h1, h2⟩
                    · exact absurd c86 h2
                    · show nI _ + 0 = nI (_ + (q_f3 y.2 + 0)); rw [h1]; exact Int32.add_zero _
                  subst h110
                  exact ih (S7.R 0 y.1) i115 _ _ (D ++ [y]) R2 S7 H locs ls (by simp at hk; omega) hV (lv_sub hl [0, 1, 3, 2, 4, 5] rfl) hC7 (by rw [← hDR]; simp) hch7 (by rw [e115, hi5, nI_1]; simp) hsh9 (by rw [nI_add, q_sz_app]; exact congrArg nI (by simp only [q_sz]; omega)) hfl7 (q_fr_tr hfS (q_fr_mo hf7 (fun _ _ z => z.1) (fun _ _ z => z) (fun _ _ z => z)))
                · refine lv_iconst (v := 1) C.1 C.2.1 dX4_faults_89 (by decide) ?_
                  refine lv_goto (tgt := 94) C.1 C.2.1 dX4_faults_90 (by decide) ?_
                  refine lv_iadd C.1 C.2.1 dX4_faults_94 ?_
                  refine q_istore_n (x := sh + 1) (lv' := [(3, .int (sh + 1)), (5, .int (i5)), (4, va_rf (some y.1)), (2, .int (du)), (1, .int (0)), (0, va_rf (some c9))]) C dX4_faults_95 rfl hl (by decide) (q_k0 (q_kN 0 rfl (by decide) (by decide) (q_kN 1 rfl (by decide) (by decide) (q_kC 3 rfl (by decide) rfl (q_kN 4 rfl (by decide) (by decide) (q_kN 5 rfl (by decide) (by decide) q_kz)))))) (fun ls hl => ?_)
                  refine q_aload (r := some y.1) C dX4_faults_96 (lv_at hl 2 rfl) ?_
                  refine g_Piece_at C hV hL_y7 hK_y7 (Or.inr ⟨_, wd_122⟩) dX4_faults_98 ?_
                  refine q_ti (v' := nI (1 + q_sz D)) (hI0y7) ?_
                  refine q_aload (r := some y.1) C dX4_faults_101 (lv_at hl 2 rfl) ?_
                  refine g_Piece_cells C hV hL_y7 hK_y7 (Or.inr ⟨_, wd_124⟩) dX4_faults_103 ?_
                  refine q_ti (v' := nI y.2.1) (hI1y7) ?_
                  refine lv_iadd C.1 C.2.1 dX4_faults_106 ?_
                  refine q_istore_n (x := (nI (1 + q_sz D)) + (nI y.2.1)) (lv' := [(2, .int ((nI (1 + q_sz D)) + (nI y.2.1))), (3, .int (sh + 1)), (5, .int (i5)), (4, va_rf (some y.1)), (1, .int (0)), (0, va_rf (some c9))]) C dX4_faults_107 rfl hl (by decide) (q_k0 (q_kN 0 rfl (by decide) (by decide) (q_kN 1 rfl (by decide) (by decide) (q_kN 2 rfl (by decide) (by decide) (q_kC 4 rfl (by decide) rfl (q_kN 5 rfl (by decide) (by decide) q_kz)))))) (fun ls hl => ?_)
                  refine q_aload (r := some y.1) C dX4_faults_108 (lv_at hl 3 rfl) ?_
                  refine g_Piece_behind C hV hL_y7 hK_y7 (Or.inr ⟨_, wd_131⟩) dX4_faults_110 ?_
                  refine q_nr (fun r110 h110 => ?_)
                  refine q_astore (r := r110) (lv' := [(4, va_rf (r110)), (2, .int ((nI (1 + q_sz D)) + (nI y.2.1))), (3, .int (sh + 1)), (5, .int (i5)), (1, .int (0)), (0, va_rf (some c9))]) C dX4_faults_113 hl (by decide) (q_k0 (q_kN 0 rfl (by decide) (by decide) (q_kC 1 rfl (by decide) rfl (q_kN 2 rfl (by decide) (by decide) (q_kN 4 rfl (by decide) (by decide) (q_kN 5 rfl (by decide) (by decide) q_kz)))))) (fun ls hl => ?_)
                  obtain ⟨i115, e115⟩ : ∃ y : Int32, y = i5 + 1 := ⟨_, rfl⟩
                  refine q_iinc (v := i115) (k := 3) (lv' := [(5, .int (i115)), (4, va_rf (r110)), (2, .int ((nI (1 + q_sz D)) + (nI y.2.1))), (3, .int (sh + 1)), (1, .int (0)), (0, va_rf (some c9))]) C dX4_faults_115 hl rfl (by rw [e115]; rfl) (by decide) (q_k0 (q_kC 0 rfl (by decide) (q_cat _) (q_kN 1 rfl (by decide) (by decide) (q_kN 2 rfl (by decide) (by decide) (q_kN 4 rfl (by decide) (by decide) (q_kN 5 rfl (by decide) (by decide) q_kz)))))) (fun ls hl => ?_)
                  refine lv_goto (tgt := 15) C.1 C.2.1 dX4_faults_118 (by decide) ?_
                  have hsh9 : sh + 1 = nI (q_cn q_f3 (q_vl (D ++ [y]))) := by
                    rw [hsh, q_vl_app, q_cn_app]
                    rcases q_f3_fw y with ⟨h1, h2⟩ | ⟨h1, h2⟩
                    · show nI _ + 1 = nI (_ + (q_f3 y.2 + 0)); rw [h1]; exact nI_1 _
                    · exact absurd h2 c86
                  subst h110
                  exact ih (S7.R 0 y.1) i115 _ _ (D ++ [y]) R2 S7 H locs ls (by simp at hk; omega) hV (lv_sub hl [0, 1, 3, 2, 4, 5] rfl) hC7 (by rw [← hDR]; simp) hch7 (by rw [e115, hi5, nI_1]; simp) hsh9 (by rw [nI_add, q_sz_app]; exact congrArg nI (by simp only [q_sz]; omega)) hfl7 (q_fr_tr hfS (q_fr_mo hf7 (fun _ _ z => z.1) (fun _ _ z => z) (fun _ _ z => z)))
              · refine q_aload (r := some y.1) C dX4_faults_58 (lv_at hl 1 rfl) ?_
                refine g_Piece_cells C hV hL_y hK_y (Or.inr ⟨_, wd_124⟩) dX4_faults_60 ?_
                refine q_ti (v' := nI y.2.1) (hI1y) ?_
                refine lv_iconst (v := 3) C.1 C.2.1 dX4_faults_63 (by decide) ?_
                refine lv_icmp_ge (tgt := 70) C.1 C.2.1 dX4_faults_64 (by decide) (fun c64 => ?_) (fun c64 => ?_)
                · refine q_aload (r := some y.1) C dX4_faults_70 (lv_at hl 1 rfl) ?_
                  refine q_aload (r := some y.1) C dX4_faults_72 (lv_at hl 1 rfl) ?_
                  refine q_ci hV (q_rN (b := y.1) (As := []) (rest := [va_rf (some y.1)]) C hV (c_Piece_isShelved l E S' y.1 hL_y hK_y) wd_241 wd_238 wd_240 wd_15 wd_41 ok_X0_isShelved ⟨rfl, rfl, Nat.le_of_ble_eq_true rfl, Nat.le_of_ble_eq_true rfl⟩ (q_rc0 hV hL_y hK_y) rfl hl.1 rfl (q_sm (q_1c (q_cat _) q_1n) (Nat.le_of_ble_eq_true rfl)) dX4_faults_74 ⟨Nat.le_of_ble_eq_true rfl, Nat.le_of_ble_eq_true rfl⟩) (fun i74 S74 H locs hp74 hV => ?_)
                  obtain ⟨eS74, hp74⟩ := hp74
                  rw [eS74] at hV
                  rw [q_fw_is hI1y hI2y (by omega)] at hp74
                  subst hp74
                  refine p_Piece_awaited (v := q_fw y) C hV hL_y hK_y (by unfold q_fw; split <;> simp) (Or.inr ⟨_, wd_135⟩) dX4_faults_77 (fun H locs hV => ?_)
                  obtain ⟨S7, hS7⟩ : ∃ X : qS, X = S'.sI 3 y.1 (q_fw y) := ⟨_, rfl⟩
                  have hV : q_V E s S7 H locs := by rw [hS7]; exact hV
                  have hf7 : q_fr S' S7 (fun j x => j = 3 ∧ x = y.1) q_c0 q_c0 := by rw [hS7]; exact q_fr_sI ⟨rfl, rfl⟩
                  have hC7 : q_C S7 c9 n9 f9 tm P h ar t ns rows := q_C_fr hC9 hf7 (fun j x z => Or.inl z.1) (fun _ _ z => z.elim) (fun _ _ z => z) ((hf7.2.1 c9 hC9.1.1 6 (fun e => absurd e.1 (by decide))).trans hC9.2.2.1)
                  have hC7y : q_C S7 c9 n9 f9 tm (D ++ y :: R2) h ar t ns rows := by rw [hDR]; exact hC7
                  obtain ⟨hL_y7, hK_y7, hI0y7, hI1y7, -, hch7, -, -, -⟩ := q_C_at hC7y
                  have hI3y7 : S7.I 3 y.1 = q_fw y := by rw [hS7]; exact qI_self _ _ _ _
                  have hfl7 : ∀ x ∈ D ++ [y], S7.I 3 x.1 = q_fw x := fun x hx => by
                    rcases List.mem_append.mp hx with hx | hx
                    · have hne : x.1 ≠ y.1 := q_nd_mid (q_line_nd hCy.1) x (List.mem_append_left _ hx)
                      have hxL : x.1 ∈ S'.L := by obtain ⟨b, hb⟩ := q_pcs_mem hC9.1.2.2.2.2.1 (show x ∈ P by rw [← hDR]; exact List.mem_append_left _ hx); exact hb.1
                      rw [hf7.2.1 x.1 hxL 3 (fun e => hne e.2)]; exact hfl9 x hx
                    · rw [List.mem_singleton.mp hx]; exact hI3y7
                  refine lv_iload_n C.1 C.2.1 dX4_faults_80 rfl (lv_at hl 2 rfl) ?_
                  refine q_aload (r := some y.1) C dX4_faults_81 (lv_at hl 1 rfl) ?_
                  refine g_Piece_awaited C hV hL_y7 hK_y7 (Or.inr ⟨_, wd_135⟩) dX4_faults_83 ?_
                  refine q_ti (v' := q_fw y) (hI3y7) ?_
                  refine lv_if_eq (tgt := 93) C.1 C.2.1 dX4_faults_86 (by decide) (fun c86 => ?_) (fun c86 => ?_)
                  · refine lv_iconst (v := 0) C.1 C.2.1 dX4_faults_93 (by decide) ?_
                    refine lv_iadd C.1 C.2.1 dX4_faults_94 ?_
                    refine q_istore_n (x := sh + 0) (lv' := [(3, .int (sh + 0)), (5, .int (i5)), (4, va_rf (some y.1)), (2, .int (du)), (1, .int (0)), (0, va_rf (some c9))]) C dX4_faults_95 rfl hl (by decide) (q_k0 (q_kN 0 rfl (by decide) (by decide) (q_kN 1 rfl (by decide) (by decide) (q_kC 3 rfl (by decide) rfl (q_kN 4 rfl (by decide) (by decide) (q_kN 5 rfl (by decide) (by decide) q_kz)))))) (fun ls hl => ?_)
                    refine q_aload (r := some y.1) C dX4_faults_96 (lv_at hl 2 rfl) ?_
                    refine g_Piece_at C hV hL_y7 hK_y7 (Or.inr ⟨_, wd_122⟩) dX4_faults_98 ?_
                    refine q_ti (v' := nI (1 + q_sz D)) (hI0y7) ?_
                    refine q_aload (r := some y.1) C dX4_faults_101 (lv_at hl 2 rfl) ?_
                    refine g_Piece_cells C hV hL_y7 hK_y7 (Or.inr ⟨_, wd_124⟩) dX4_faults_103 ?_
                    refine q_ti (v' := nI y.2.1) (hI1y7) ?_
                    refine lv_iadd C.1 C.2.1 dX4_faults_106 ?_
                    refine q_istore_n (x := (nI (1 + q_sz D)) + (nI y.2.1)) (lv' := [(2, .int ((nI (1 + q_sz D)) + (nI y.2.1))), (3, .int (sh + 0)), (5, .int (i5)), (4, va_rf (some y.1)), (1, .int (0)), (0, va_rf (some c9))]) C dX4_faults_107 rfl hl (by decide) (q_k0 (q_kN 0 rfl (by decide) (by decide) (q_kN 1 rfl (by decide) (by decide) (q_kN 2 rfl (by decide) (by decide) (q_kC 4 rfl (by decide) rfl (q_kN 5 rfl (by decide) (by decide) q_kz)))))) (fun ls hl => ?_)
                    refine q_aload (r := some y.1) C dX4_faults_108 (lv_at hl 3 rfl) ?_
                    refine g_Piece_behind C hV hL_y7 hK_y7 (Or.inr ⟨_, wd_131⟩) dX4_faults_110 ?_
                    refine q_nr (fun r110 h110 => ?_)
                    refine q_astore (r := r110) (lv' := [(4, va_rf (r110)), (2, .int ((nI (1 + q_sz D)) + (nI y.2.1))), (3, .int (sh + 0)), (5, .int (i5)), (1, .int (0)), (0, va_rf (some c9))]) C dX4_faults_113 hl (by decide) (q_k0 (q_kN 0 rfl (by decide) (by decide) (q_kC 1 rfl (by decide) rfl (q_kN 2 rfl (by decide) (by decide) (q_kN 4 rfl (by decide) (by decide) (q_kN 5 rfl (by decide) (by decide) q_kz)))))) (fun ls hl => ?_)
                    obtain ⟨i115, e115⟩ : ∃ y : Int32, y = i5 + 1 := ⟨_, rfl⟩
                    refine q_iinc (v := i115) (k := 3) (lv' := [(5, .int (i115)), (4, va_rf (r110)), (2, .int ((nI (1 + q_sz D)) + (nI y.2.1))), (3, .int (sh + 0)), (1, .int (0)), (0, va_rf (some c9))]) C dX4_faults_115 hl rfl (by rw [e115]; rfl) (by decide) (q_k0 (q_kC 0 rfl (by decide) (q_cat _) (q_kN 1 rfl (by decide) (by decide) (q_kN 2 rfl (by decide) (by decide) (q_kN 4 rfl (by decide) (by decide) (q_kN 5 rfl (by decide) (by decide) q_kz)))))) (fun ls hl => ?_)
                    refine lv_goto (tgt := 15) C.1 C.2.1 dX4_faults_118 (by decide) ?_
                    have hsh9 : sh + 0 = nI (q_cn q_f3 (q_vl (D ++ [y]))) := by
                      rw [hsh, q_vl_app, q_cn_app]
                      rcases q_f3_fw y with ⟨h1, h2⟩ | ⟨h1, h2⟩
                      · exact absurd c86 h2
                      · show nI _ + 0 = nI (_ + (q_f3 y.2 + 0)); rw [h1]; exact Int32.add_zero _
                    subst h110
                    exact ih (S7.R 0 y.1) i115 _ _ (D ++ [y]) R2 S7 H locs ls (by simp at hk; omega) hV (lv_sub hl [0, 1, 3, 2, 4, 5] rfl) hC7 (by rw [← hDR]; simp) hch7 (by rw [e115, hi5, nI_1]; simp) hsh9 (by rw [nI_add, q_sz_app]; exact congrArg nI (by simp only [q_sz]; omega)) hfl7 (q_fr_tr hfS (q_fr_mo hf7 (fun _ _ z => z.1) (fun _ _ z => z) (fun _ _ z => z)))
                  · refine lv_iconst (v := 1) C.1 C.2.1 dX4_faults_89 (by decide) ?_
                    refine lv_goto (tgt := 94) C.1 C.2.1 dX4_faults_90 (by decide) ?_
                    refine lv_iadd C.1 C.2.1 dX4_faults_94 ?_
                    refine q_istore_n (x := sh + 1) (lv' := [(3, .int (sh + 1)), (5, .int (i5)), (4, va_rf (some y.1)), (2, .int (du)), (1, .int (0)), (0, va_rf (some c9))]) C dX4_faults_95 rfl hl (by decide) (q_k0 (q_kN 0 rfl (by decide) (by decide) (q_kN 1 rfl (by decide) (by decide) (q_kC 3 rfl (by decide) rfl (q_kN 4 rfl (by decide) (by decide) (q_kN 5 rfl (by decide) (by decide) q_kz)))))) (fun ls hl => ?_)
                    refine q_aload (r := some y.1) C dX4_faults_96 (lv_at hl 2 rfl) ?_
                    refine g_Piece_at C hV hL_y7 hK_y7 (Or.inr ⟨_, wd_122⟩) dX4_faults_98 ?_
                    refine q_ti (v' := nI (1 + q_sz D)) (hI0y7) ?_
                    refine q_aload (r := some y.1) C dX4_faults_101 (lv_at hl 2 rfl) ?_
                    refine g_Piece_cells C hV hL_y7 hK_y7 (Or.inr ⟨_, wd_124⟩) dX4_faults_103 ?_
                    refine q_ti (v' := nI y.2.1) (hI1y7) ?_
                    refine lv_iadd C.1 C.2.1 dX4_faults_106 ?_
                    refine q_istore_n (x := (nI (1 + q_sz D)) + (nI y.2.1)) (lv' := [(2, .int ((nI (1 + q_sz D)) + (nI y.2.1))), (3, .int (sh + 1)), (5, .int (i5)), (4, va_rf (some y.1)), (1, .int (0)), (0, va_rf (some c9))]) C dX4_faults_107 rfl hl (by decide) (q_k0 (q_kN 0 rfl (by decide) (by decide) (q_kN 1 rfl (by decide) (by decide) (q_kN 2 rfl (by decide) (by decide) (q_kC 4 rfl (by decide) rfl (q_kN 5 rfl (by decide) (by decide) q_kz)))))) (fun ls hl => ?_)
                    refine q_aload (r := some y.1) C dX4_faults_108 (lv_at hl 3 rfl) ?_
                    refine g_Piece_behind C hV hL_y7 hK_y7 (Or.inr ⟨_, wd_131⟩) dX4_faults_110 ?_
                    refine q_nr (fun r110 h110 => ?_)
                    refine q_astore (r := r110) (lv' := [(4, va_rf (r110)), (2, .int ((nI (1 + q_sz D)) + (nI y.2.1))), (3, .int (sh + 1)), (5, .int (i5)), (1, .int (0)), (0, va_rf (some c9))]) C dX4_faults_113 hl (by decide) (q_k0 (q_kN 0 rfl (by decide) (by decide) (q_kC 1 rfl (by decide) rfl (q_kN 2 rfl (by decide) (by decide) (q_kN 4 rfl (by decide) (by decide) (q_kN 5 rfl (by decide) (by decide) q_kz)))))) (fun ls hl => ?_)
                    obtain ⟨i115, e115⟩ : ∃ y : Int32, y = i5 + 1 := ⟨_, rfl⟩
                    refine q_iinc (v := i115) (k := 3) (lv' := [(5, .int (i115)), (4, va_rf (r110)), (2, .int ((nI (1 + q_sz D)) + (nI y.2.1))), (3, .int (sh + 1)), (1, .int (0)), (0, va_rf (some c9))]) C dX4_faults_115 hl rfl (by rw [e115]; rfl) (by decide) (q_k0 (q_kC 0 rfl (by decide) (q_cat _) (q_kN 1 rfl (by decide) (by decide) (q_kN 2 rfl (by decide) (by decide) (q_kN 4 rfl (by decide) (by decide) (q_kN 5 rfl (by decide) (by decide) q_kz)))))) (fun ls hl => ?_)
                    refine lv_goto (tgt := 15) C.1 C.2.1 dX4_faults_118 (by decide) ?_
                    have hsh9 : sh + 1 = nI (q_cn q_f3 (q_vl (D ++ [y]))) := by
                      rw [hsh, q_vl_app, q_cn_app]
                      rcases q_f3_fw y with ⟨h1, h2⟩ | ⟨h1, h2⟩
                      · show nI _ + 1 = nI (_ + (q_f3 y.2 + 0)); rw [h1]; exact nI_1 _
                      · exact absurd h2 c86
                    subst h110
                    exact ih (S7.R 0 y.1) i115 _ _ (D ++ [y]) R2 S7 H locs ls (by simp at hk; omega) hV (lv_sub hl [0, 1, 3, 2, 4, 5] rfl) hC7 (by rw [← hDR]; simp) hch7 (by rw [e115, hi5, nI_1]; simp) hsh9 (by rw [nI_add, q_sz_app]; exact congrArg nI (by simp only [q_sz]; omega)) hfl7 (q_fr_tr hfS (q_fr_mo hf7 (fun _ _ z => z.1) (fun _ _ z => z) (fun _ _ z => z)))
                · exfalso
                  have h3 := hu y hyP (q_fl0.mp c55)
                  exact c64 (nI_le h3 (by omega))
          · exfalso
            exact c35 hdu.symm
  refine lv_iconst (v := 0) C.1 C.2.1 dX4_faults_0 (by decide) ?_
  refine q_istore_n (x := 0) (lv' := [(1, .int (0)), (0, va_rf (some c9))]) C dX4_faults_1 rfl hl (by decide) (q_k0 (q_kC 0 rfl (by decide) (q_cat _) q_kz)) (fun ls hl => ?_)
  refine lv_iconst (v := 1) C.1 C.2.1 dX4_faults_2 (by decide) ?_
  refine q_istore_n (x := 1) (lv' := [(2, .int (1)), (1, .int (0)), (0, va_rf (some c9))]) C dX4_faults_3 rfl hl (by decide) (q_k0 (q_kC 0 rfl (by decide) rfl (q_kN 1 rfl (by decide) (by decide) q_kz))) (fun ls hl => ?_)
  refine lv_iconst (v := 0) C.1 C.2.1 dX4_faults_4 (by decide) ?_
  refine q_istore_n (x := 0) (lv' := [(3, .int (0)), (2, .int (1)), (1, .int (0)), (0, va_rf (some c9))]) C dX4_faults_5 rfl hl (by decide) (q_k0 (q_kC 0 rfl (by decide) rfl (q_kN 1 rfl (by decide) (by decide) (q_kN 2 rfl (by decide) (by decide) q_kz)))) (fun ls hl => ?_)
  refine q_aload_n (r := some c9) C dX4_faults_6 rfl (lv_at hl 3 rfl) ?_
  refine g_Shelf_lowest C hV hL_c9 hK_c9 (Or.inl wd_178) dX4_faults_7 ?_
  refine q_nr (fun r7 h7 => ?_)
  refine q_astore (r := r7) (lv' := [(4, va_rf (r7)), (3, .int (0)), (2, .int (1)), (1, .int (0)), (0, va_rf (some c9))]) C dX4_faults_10 hl (by decide) (q_k0 (q_kC 0 rfl (by decide) rfl (q_kN 1 rfl (by decide) (by decide) (q_kN 2 rfl (by decide) (by decide) (q_kN 3 rfl (by decide) (by decide) q_kz))))) (fun ls hl => ?_)
  refine lv_iconst (v := 0) C.1 C.2.1 dX4_faults_12 (by decide) ?_
  refine q_istore (x := 0) (lv' := [(5, .int (0)), (4, va_rf (r7)), (3, .int (0)), (2, .int (1)), (1, .int (0)), (0, va_rf (some c9))]) C dX4_faults_13 hl (by decide) (q_k0 (q_kC 0 rfl (by decide) (q_cat _) (q_kN 1 rfl (by decide) (by decide) (q_kN 2 rfl (by decide) (by decide) (q_kN 3 rfl (by decide) (by decide) (q_kN 4 rfl (by decide) (by decide) q_kz)))))) (fun ls hl => ?_)
  exact loop (P.length + 1) r7 0 0 1 [] P S s.heap [] ls (Nat.lt_succ_self _) hV hl hC (List.nil_append _) (by rw [h7]; exact hC.1.2.2.2.1) nI_0.symm nI_0.symm (by decide) (fun y hy => nomatch hy) q_fr_rf
theorem c_Shelf_faults (l : Launch) (E : qE) (S : qS) (c9 h ar t n9 f9 tm : Nat) (P : List q_X) (ns : List Nat) (rows : Nat → List Nat) (hC : q_C S c9 n9 f9 tm P h ar t ns rows) (hu : ∀ x ∈ P, x.2.2.1 = false → 3 ≤ x.2.1) : q_Mi l yX4_faults cX4_faults 6 .int { frames := 2, cells := 0, slots := 0, locals := 50 } E [.ref c9] S (fun r S1 => r = 0 ∧ q_CC S1 c9 n9 f9 tm P h ar t ∧ q_fk S S1) 0 0 := c0_Shelf_faults l E S c9 h ar t n9 f9 tm P ns rows hC hu _ (fun _ _ h => h)
end
section
/-! THE REFERENCE: its two arrays say the same values -/
theorem q_upd_eq (f : Nat → Int32) (k : Nat) (x : Int32) : upd f k x k = x := if_pos rfl
theorem q_upd_ne (f : Nat → Int32) (k : Nat) (x : Int32) {j : Nat} (h : j ≠ k) : upd f k x j = f j := if_neg h
def v_sg (v : Nat × Bool × Nat) : Int32 := if v.2.1 = true then -nI v.1 else nI v.1
def q_ms (f g : Nat → Int32) : Nat → v_V → Prop
  | _, [] => True
  | a, v :: V => f a = v_sg v ∧ (∀ i, a < i → i < a + v.1 → f i = 0) ∧ (v.2.1 = true → g a = nI v.2.2) ∧ q_ms f g (a + v.1) V
theorem q_ms_app {f g : Nat → Int32} : ∀ {A B : v_V} {a : Nat}, q_ms f g a (A ++ B) ↔ q_ms f g a A ∧ q_ms f g (a + v_sz A) B := by
  intro A
  induction A with
  | nil => intro B a; simp [q_ms, v_sz]
  | cons x A ih => intro B a; simp only [List.cons_append, q_ms, v_sz, ih, and_assoc, Nat.add_assoc]
theorem q_ms_congr {f g f' g' : Nat → Int32} : ∀ {V : v_V} {a : Nat}, (∀ i, a ≤ i → i < a + v_sz V → f' i = f i ∧ g' i = g i) → (∀ v ∈ V, 1 ≤ v.1) → q_ms f g a V → q_ms f' g' a V := by
  intro V
  induction V with
  | nil => intro a _ _ _; trivial
  | cons v V ih =>
    intro a h hp hm
    simp only [v_sz] at h
    have hv := hp v List.mem_cons_self
    refine ⟨by rw [(h a (Nat.le_refl _) (by omega)).1]; exact hm.1, fun i h1 h2 => by rw [(h i (by omega) (by omega)).1]; exact hm.2.1 i h1 h2, fun e => by rw [(h a (Nat.le_refl _) (by omega)).2]; exact hm.2.2.1 e, ih (fun i h1 h2 => h i (by omega) (by omega)) (fun x hx => hp x (List.mem_cons_of_mem _ hx)) hm.2.2.2⟩
/-- the reference's object and arrays -/
def q_Mb (S : qS) (m sz ti n : Nat) : Prop := (m ∈ S.L ∧ S.K m = 5 ∧ S.R 10 m = some sz ∧ S.R 11 m = some ti) ∧ (sz ∈ S.L ∧ S.K sz = 6 ∧ S.N sz = 16385) ∧ (ti ∈ S.L ∧ S.K ti = 6 ∧ S.N ti = 16385) ∧ sz ≠ ti ∧ S.I 8 m = nI n
def v_ok (n tm : Nat) (V : v_V) : Prop := v_sz V = n ∧ 1 ≤ n ∧ n ≤ 16384 ∧ (∀ v ∈ V, 1 ≤ v.1) ∧ (∀ v ∈ V, v.2.1 = true → v.2.2 < tm) ∧ 1 ≤ tm ∧ tm < 2 ^ 30
def q_M (S : qS) (m sz ti n fails tm : Nat) (V : v_V) : Prop := q_Mb S m sz ti n ∧ S.I 9 m = nI (tm - 1) ∧ S.I 10 m = nI fails ∧ v_ok n tm V ∧ q_ms (S.A sz) (S.A ti) 1 V
/-- what the reference may change -/
def q_gr (S S1 : qS) : Prop := S1.L = S.L ∧ S1.K = S.K ∧ S1.R = S.R ∧ S1.J = S.J ∧ S1.N = S.N ∧ S1.B = S.B ∧ ∀ j, j ≤ 6 → S1.I j = S.I j
theorem q_gr_rf {S : qS} : q_gr S S := ⟨rfl, rfl, rfl, rfl, rfl, rfl, fun _ _ => rfl⟩
theorem q_gr_tr {S S1 S2 : qS} (h : q_gr S S1) (h' : q_gr S1 S2) : q_gr S S2 := ⟨h'.1.trans h.1, h'.2.1.trans h.2.1, h'.2.2.1.trans h.2.2.1, h'.2.2.2.1.trans h.2.2.2.1, h'.2.2.2.2.1.trans h.2.2.2.2.1, h'.2.2.2.2.2.1.trans h.2.2.2.2.2.1, fun j hj => (h'.2.2.2.2.2.2 j hj).trans (h.2.2.2.2.2.2 j hj)⟩
theorem q_gr_sI {S S1 : qS} {k a : Nat} {v : Int32} (h : q_gr S S1) (hk : 7 ≤ k) : q_gr S (S1.sI k a v) := q_gr_tr h ⟨rfl, rfl, rfl, rfl, rfl, rfl, fun j hj => qI_of _ _ _ _ (by omega)⟩
theorem q_gr_sA {S S1 : qS} {a i : Nat} {v : Int32} (h : q_gr S S1) : q_gr S (S1.sA a i v) := q_gr_tr h ⟨rfl, rfl, rfl, rfl, rfl, rfl, fun _ _ => rfl⟩
theorem q_pcs_gr {S S1 : qS} (h : q_gr S S1) : ∀ {P : List q_X} {a : Nat}, q_pcs S a P → q_pcs S1 a P := by
  obtain ⟨h1, h2, h3, h4, h5, h6, h7⟩ := h
  intro P
  induction P with
  | nil => intro a _; trivial
  | cons x P ih =>
    intro a hp
    refine ⟨?_, ih hp.2⟩
    have h9 := hp.1
    unfold q_pok at h9 ⊢
    rw [h1, h2, h4, h7 0 (by decide), h7 1 (by decide), h7 2 (by decide)]
    exact h9
theorem q_C_gr {S S1 : qS} {c n fails tm : Nat} {P : List q_X} {h ar t : Nat} {ns : List Nat} {rows : Nat → List Nat} (hC : q_C S c n fails tm P h ar t ns rows) (hg : q_gr S S1) : q_C S1 c n fails tm P h ar t ns rows := by
  have hp := q_pcs_gr (P := P) (a := 1) hg
  obtain ⟨h1, h2, h3, h4, h5, h6, h7⟩ := hg
  have e4 := h7 4 (by decide)
  have ez : q_z S1 = q_z S := by funext a; show (S1.I 4 a).toInt = (S.I 4 a).toInt; rw [e4]
  unfold q_C q_line q_sh q_tree q_ne q_rws q_row at hC ⊢
  rw [h1, h2, h3, h4, h5, h6, h7 5 (by decide), h7 6 (by decide), e4, h7 1 (by decide), ez]
  obtain ⟨⟨c1, c2, c3, c4, c5, c6⟩, c7⟩ := hC
  exact ⟨⟨c1, c2, c3, c4, hp c5, c6⟩, c7⟩
theorem q_CC_gr {S S1 : qS} {c n fails tm : Nat} {P : List q_X} {h ar t : Nat} (hC : q_CC S c n fails tm P h ar t) (hg : q_gr S S1) : q_CC S1 c n fails tm P h ar t := by
  obtain ⟨ns, rows, hC⟩ := hC
  exact ⟨ns, rows, q_C_gr hC hg⟩
theorem q_Mb_gr {S S1 : qS} {m sz ti n : Nat} (hM : q_Mb S m sz ti n) (hg : q_gr S S1) (h8 : S1.I 8 m = S.I 8 m) : q_Mb S1 m sz ti n := by
  obtain ⟨h1, h2, h3, h4, h5, h6, h7⟩ := hg
  unfold q_Mb at hM ⊢
  rw [h1, h2, h3, h5, h8]
  exact hM
theorem q_nkR {j x : Nat} (h : 10 ≤ j) : ¬ q_kR j x := fun z => absurd (show j ≤ 9 from z) (by omega)
theorem q_nkI {j x : Nat} (h : 7 ≤ j) : ¬ q_kI j x := fun z => absurd (show j ≤ 6 from z) (by omega)
/-- the class's calls leave the reference as it was -/
theorem q_Mb_fk {S S1 : qS} {m sz ti n : Nat} (hM : q_Mb S m sz ti n) (hf : q_fk S S1) : q_Mb S1 m sz ti n := by
  obtain ⟨⟨a1, a2, a3, a4⟩, ⟨b1, b2, b3⟩, ⟨c1, c2, c3⟩, d, e⟩ := hM
  exact ⟨⟨(hf.1 m a1).1, (hf.1 m a1).2.1.trans a2, (hf.2.2.1 m a1 10 (q_nkR (by decide))).trans a3, (hf.2.2.1 m a1 11 (q_nkR (by decide))).trans a4⟩, ⟨(hf.1 sz b1).1, (hf.1 sz b1).2.1.trans b2, (hf.1 sz b1).2.2.1.trans b3⟩, ⟨(hf.1 ti c1).1, (hf.1 ti c1).2.1.trans c2, (hf.1 ti c1).2.2.1.trans c3⟩, d, (hf.2.1 m a1 8 (q_nkI (by decide))).trans e⟩
theorem q_M_fk {S S1 : qS} {m sz ti n fails tm : Nat} {V : v_V} (hM : q_M S m sz ti n fails tm V) (hf : q_fk S S1) : q_M S1 m sz ti n fails tm V := by
  obtain ⟨hb, h1, h2, h3, h4⟩ := hM
  refine ⟨q_Mb_fk hb hf, (hf.2.1 m hb.1.1 9 (q_nkI (by decide))).trans h1, (hf.2.1 m hb.1.1 10 (q_nkI (by decide))).trans h2, h3, ?_⟩
  rw [(hf.1 sz hb.2.1.1).2.2.2.1, (hf.1 ti hb.2.2.1.1).2.2.2.1]
  exact h4
theorem q_M_thr {S : qS} {m sz ti n fails tm : Nat} {V : v_V} (hM : q_M S m sz ti n fails tm V) (v : Int32) : q_M (S.sI 7 m v) m sz ti n fails tm V := by
  obtain ⟨hb, h1, h2, h3, h4⟩ := hM
  exact ⟨q_Mb_gr hb (q_gr_sI q_gr_rf (by decide)) (congrFun (qI_of _ _ _ _ (by decide)) m), (congrFun (qI_of _ _ _ _ (by decide)) m).trans h1, (congrFun (qI_of _ _ _ _ (by decide)) m).trans h2, h3, h4⟩
/-- one piece's place in the arrays -/
theorem q_M_at {S : qS} {m sz ti n fails tm : Nat} {A B : v_V} {v : Nat × Bool × Nat} (hM : q_M S m sz ti n fails tm (A ++ v :: B)) : S.A sz (1 + v_sz A) = v_sg v ∧ (∀ i, 1 + v_sz A < i → i < 1 + v_sz A + v.1 → S.A sz i = 0) ∧ (v.2.1 = true → S.A ti (1 + v_sz A) = nI v.2.2) ∧ 1 ≤ v.1 ∧ v_sz A + v.1 + v_sz B = n ∧ n ≤ 16384 := by
  obtain ⟨hb, h1, h2, ⟨h3, h4, h5, h6, -⟩, h7⟩ := hM
  obtain ⟨-, g1, g2, g3, -⟩ := q_ms_app.mp h7
  refine ⟨g1, g2, g3, h6 v (by simp), ?_, h5⟩
  rw [← h3, v_sz_app]; simp only [v_sz]; omega
def v_ln (x : Int32) : Int32 := if 0 ≤ x then x else 0 - x
theorem nI_neg {k : Nat} (h : k < 2 ^ 31) : (-nI k).toInt = -(k : Int) := by
  rw [Int32.toInt_neg, nI_toInt h]
  have : (-(k : Int)).bmod (2 ^ 32) = -(k : Int) := by
    rw [Int.bmod_eq_of_le] <;> omega
  exact this
theorem v_sg_t {v : Nat × Bool × Nat} (h : v.2.1 = true) (hz : v.1 < 2 ^ 31) : (v_sg v).toInt = -(v.1 : Int) := by
  unfold v_sg; rw [if_pos h]; exact nI_neg hz
theorem v_sg_f {v : Nat × Bool × Nat} (h : v.2.1 = false) (hz : v.1 < 2 ^ 31) : (v_sg v).toInt = (v.1 : Int) := by
  unfold v_sg; rw [if_neg (by rw [h]; decide)]; exact nI_toInt hz
theorem v_ln_sg {v : Nat × Bool × Nat} (h1 : 1 ≤ v.1) (hz : v.1 < 2 ^ 31) : v_ln (v_sg v) = nI v.1 := by
  unfold v_ln
  cases hf : v.2.1 with
  | true =>
    rw [if_neg (fun z => by have := q_i_le.mp z; rw [v_sg_t hf hz, q_i0] at this; omega)]
    unfold v_sg; rw [if_pos hf]
    apply Int32.toInt_inj.mp
    rw [Int32.zero_sub, Int32.neg_neg]
  | false =>
    rw [if_pos (q_i_le.mpr (by rw [v_sg_f hf hz, q_i0]; omega))]
    unfold v_sg; rw [if_neg (by rw [hf]; decide)]
end
