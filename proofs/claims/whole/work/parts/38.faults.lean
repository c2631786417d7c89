/-! the rows hold each shelved piece once -/
theorem q_rw_one {S : qS} {c n fails tm : Nat} {P : List q_X} {h ar t : Nat} {ns : List Nat} {rows : Nat → List Nat} (hC : q_C S c n fails tm P h ar t ns rows) {z z' a : Nat} (h1 : a ∈ rows z) (h2 : a ∈ rows z') : z = z' := by
  obtain ⟨-, x, hx, e1, e2, -⟩ := (hC.2.2.2.2.2.2.1.1 z a).mp h1
  obtain ⟨-, x', hx', e1', e2', -⟩ := (hC.2.2.2.2.2.2.1.1 z' a).mp h2
  rw [← e2, ← e2', q_nd_eq (q_line_nd hC.1) hx hx' (e1.trans e1'.symm)]
theorem q_l1_mem {rows : Nat → List Nat} : ∀ {i a : Nat}, a ∈ q_l1 rows i ↔ ∃ z, 3 ≤ z ∧ z < i + 3 ∧ a ∈ rows z := by
  intro i
  induction i with
  | zero => intro a; exact ⟨fun h => (nomatch h), fun ⟨z, h1, h2, _⟩ => by omega⟩
  | succ i ih =>
    intro a
    rw [q_l1, List.mem_append, ih]
    constructor
    · rintro (⟨z, h1, h2, h3⟩ | h)
      · exact ⟨z, h1, by omega, h3⟩
      · exact ⟨i + 3, by omega, by omega, h⟩
    · rintro ⟨z, h1, h2, h3⟩
      rcases Nat.lt_or_ge z (i + 3) with h | h
      · exact Or.inl ⟨z, h1, h, h3⟩
      · have : z = i + 3 := by omega
        exact Or.inr (this ▸ h3)
theorem q_l2_mem {rows : Nat → List Nat} {zf : Nat → Nat} : ∀ {ns : List Nat} {a : Nat}, a ∈ q_l2 rows zf ns ↔ ∃ r ∈ ns, a ∈ rows (zf r) := by
  intro ns
  induction ns with
  | nil => intro a; exact ⟨fun h => (nomatch h), fun ⟨r, h, _⟩ => (nomatch h)⟩
  | cons r ns ih => intro a; rw [q_l2, List.mem_append, ih]; simp
theorem q_l1_nd {rows : Nat → List Nat} (hn : ∀ z, (rows z).Nodup) (hd : ∀ z z' a, a ∈ rows z → a ∈ rows z' → z = z') : ∀ i, (q_l1 rows i).Nodup := by
  intro i
  induction i with
  | zero => exact List.nodup_nil
  | succ i ih =>
    refine List.nodup_append.mpr ⟨ih, hn _, fun a ha b hb e => ?_⟩
    obtain ⟨z, h1, h2, h3⟩ := q_l1_mem.mp ha
    have := hd _ _ _ h3 (e ▸ hb)
    omega
theorem q_l2_nd {rows : Nat → List Nat} {zf : Nat → Nat} (hn : ∀ z, (rows z).Nodup) (hd : ∀ z z' a, a ∈ rows z → a ∈ rows z' → z = z') : ∀ {ns : List Nat}, ns.Nodup → (∀ r ∈ ns, ∀ r' ∈ ns, zf r = zf r' → r = r') → (q_l2 rows zf ns).Nodup := by
  intro ns
  induction ns with
  | nil => intro _ _; exact List.nodup_nil
  | cons r ns ih =>
    intro h1 h2
    have h3 := List.nodup_cons.mp h1
    refine List.nodup_append.mpr ⟨hn _, ih h3.2 (fun a ha b hb => h2 a (List.mem_cons_of_mem _ ha) b (List.mem_cons_of_mem _ hb)), fun a ha b hb e => ?_⟩
    obtain ⟨r', hr', hb'⟩ := q_l2_mem.mp hb
    have := h2 r List.mem_cons_self r' (List.mem_cons_of_mem _ hr') (hd _ _ _ (e ▸ ha) hb')
    exact h3.1 (this ▸ hr')
theorem q_l2_len {rows : Nat → List Nat} {zf : Nat → Nat} : ∀ {ns : List Nat}, (∀ r ∈ ns, rows (zf r) ≠ []) → ns.length ≤ (q_l2 rows zf ns).length := by
  intro ns
  induction ns with
  | nil => intro _; exact Nat.le_refl _
  | cons r ns ih =>
    intro h
    have h1 := ih (fun a ha => h a (List.mem_cons_of_mem _ ha))
    have h2 := List.length_pos_iff.mpr (h r List.mem_cons_self)
    simp only [q_l2, List.length_append, List.length_cons]
    omega
theorem q_ca_le (L : List Nat) : ∀ (P : List q_X), q_ca L P ≤ P.length := by
  intro P
  induction P with
  | nil => exact Nat.le_refl _
  | cons y P ih => simp only [q_ca, List.length_cons]; split <;> omega
theorem q_rw_len {S : qS} {c n fails tm : Nat} {P : List q_X} {h ar t : Nat} {ns : List Nat} {rows : Nat → List Nat} (hC : q_C S c n fails tm P h ar t ns rows) (z : Nat) : (rows z).length ≤ n ∧ (rows z ≠ [] → z ≤ n) := by
  have c7 := hC.2.2.2.2.2.2.1
  constructor
  · rw [← q_ca_len (q_line_nd hC.1) (q_rws_nd c7 z) (fun a ha => by obtain ⟨-, y, hy, e, -⟩ := (c7.1 z a).mp ha; exact ⟨y, hy, e⟩)]
    exact Nat.le_trans (q_ca_le _ _) (q_line_len hC.1)
  · intro hne
    obtain ⟨a, ha⟩ := List.exists_mem_of_ne_nil _ hne
    obtain ⟨-, y, hy, -, e, -⟩ := (c7.1 z a).mp ha
    have h1 := q_sz_mem hy
    rw [hC.1.2.2.2.2.2.1] at h1
    have := hC.1.2.2.2.2.2.2.1
    omega
abbrev q_zf (S : qS) : Nat → Nat := fun r => (q_z S r).toNat
theorem q_ns_row {S : qS} {c n fails tm : Nat} {P : List q_X} {h ar t : Nat} {ns : List Nat} {rows : Nat → List Nat} (hC : q_C S c n fails tm P h ar t ns rows) : ∀ r ∈ ns, q_row S rows (q_zf S r) r ∧ 64 ≤ q_zf S r := fun r hr => by
  obtain ⟨z, hz, hrow⟩ := hC.2.2.2.1.2.2.2.2.1 r hr
  have e : q_zf S r = z := by show (q_z S r).toNat = z; rw [q_row_z hrow]; simp
  rw [e]; exact ⟨hrow, hz⟩
theorem q_total {S : qS} {c n fails tm : Nat} {P : List q_X} {h ar t : Nat} {ns : List Nat} {rows : Nat → List Nat} (hC : q_C S c n fails tm P h ar t ns rows) : q_cn q_f3 (q_vl P) = (q_l1 rows 61).length + (q_l2 rows (q_zf S) ns).length ∧ ns.length ≤ n := by
  have c7 := hC.2.2.2.2.2.2.1
  have hnd := q_line_nd hC.1
  have hso := hC.2.2.2.1.2.2.2.1.2.2.2.2
  have hd : ∀ z z' a, a ∈ rows z → a ∈ rows z' → z = z' := fun z z' a h1 h2 => q_rw_one hC h1 h2
  have hn : ∀ z, (rows z).Nodup := q_rws_nd c7
  have hrow := q_ns_row hC
  have hinj : ∀ r ∈ ns, ∀ r' ∈ ns, q_zf S r = q_zf S r' → r = r' := fun r hr r' hr' e => q_so_inj hso hr hr' (by rw [q_row_z (hrow r hr).1, q_row_z (hrow r' hr').1, e])
  have hL : (q_l1 rows 61 ++ q_l2 rows (q_zf S) ns).Nodup := by
    refine List.nodup_append.mpr ⟨q_l1_nd hn hd _, q_l2_nd hn hd (q_so_nodup hso) hinj, fun a ha b hb e => ?_⟩
    obtain ⟨z, h1, h2, h3⟩ := q_l1_mem.mp ha
    obtain ⟨r, hr, h4⟩ := q_l2_mem.mp hb
    have h5 := hd _ _ _ h3 (e ▸ h4)
    have h6 := (hrow r hr).2
    omega
  have hsub : ∀ a ∈ q_l1 rows 61 ++ q_l2 rows (q_zf S) ns, ∃ z, a ∈ rows z := fun a ha => by
    rcases List.mem_append.mp ha with ha | ha
    · obtain ⟨z, -, -, h3⟩ := q_l1_mem.mp ha; exact ⟨z, h3⟩
    · obtain ⟨r, -, h3⟩ := q_l2_mem.mp ha; exact ⟨_, h3⟩
  have e1 : q_cn q_f3 (q_vl P) = q_ca (q_l1 rows 61 ++ q_l2 rows (q_zf S) ns) P := by
    apply q_cn_ca
    intro y hy
    unfold q_f3
    by_cases hc : y.2.2.1 = true ∧ 3 ≤ y.2.1
    · rw [if_pos hc, if_pos]
      have hin : y.1 ∈ rows y.2.1 := (c7.1 _ _).mpr ⟨hc.2, y, hy, rfl, rfl, hc.1⟩
      rcases Nat.lt_or_ge y.2.1 64 with h1 | h1
      · exact List.mem_append_left _ (q_l1_mem.mpr ⟨_, hc.2, by omega, hin⟩)
      · obtain ⟨r, hr, hrr⟩ := hC.2.2.2.1.2.2.2.2.2.1 y.2.1 h1 (List.ne_nil_of_mem hin)
        exact List.mem_append_right _ (q_l2_mem.mpr ⟨r, hr, by rw [q_row_one (hrow r hr).1 hrr]; exact hin⟩)
    · rw [if_neg hc, if_neg]
      intro h9
      obtain ⟨z, hz⟩ := hsub _ h9
      obtain ⟨h3, x, hx, e1, e2, e3⟩ := (c7.1 z y.1).mp hz
      have e := q_nd_eq hnd hx hy e1
      subst e
      exact hc ⟨e3, by omega⟩
  have e2 := q_ca_len hnd hL (fun a ha => by obtain ⟨z, hz⟩ := hsub a ha; obtain ⟨-, y, hy, e, -⟩ := (c7.1 z a).mp hz; exact ⟨y, hy, e⟩)
  have e3 := q_ca_le (q_l1 rows 61 ++ q_l2 rows (q_zf S) ns) P
  rw [e2, List.length_append] at e3
  refine ⟨by rw [e1, e2, List.length_append], ?_⟩
  have h1 := q_l2_len (rows := rows) (zf := q_zf S) (ns := ns) (fun r hr => hC.2.2.2.2.1 r hr)
  have h2 := q_line_len hC.1
  omega
def q_fw (x : q_X) : Int32 := if x.2.2.1 = true ∧ 3 ≤ x.2.1 then 1 else 0
theorem q_fw_is {S : qS} {x : q_X} (h1 : S.I 1 x.1 = nI x.2.1) (h2 : S.I 2 x.1 = q_fl x.2.2.1) (hz : x.2.1 ≤ 16384) : (if ¬ S.I 2 x.1 = 0 ∧ 3 ≤ S.I 1 x.1 then (1 : Int32) else 0) = q_fw x := by
  have hiff : (¬ S.I 2 x.1 = 0 ∧ 3 ≤ S.I 1 x.1) ↔ (x.2.2.1 = true ∧ 3 ≤ x.2.1) := by
    rw [h1, h2, q_fl0, show (3 : Int32) = nI 3 from by decide, nI_leI (by omega) (by omega)]
    cases x.2.2.1 <;> simp
  unfold q_fw
  by_cases hc : x.2.2.1 = true ∧ 3 ≤ x.2.1
  · rw [if_pos (hiff.mpr hc), if_pos hc]
  · rw [if_neg (fun z => hc (hiff.mp z)), if_neg hc]
theorem q_cn_app (f : Nat × Bool × Nat → Nat) : ∀ (A B : v_V), q_cn f (A ++ B) = q_cn f A + q_cn f B := by
  intro A B
  induction A with
  | nil => simp [q_cn]
  | cons x A ih => simp only [List.cons_append, q_cn, ih]; omega
theorem q_f3_fw (x : q_X) : (q_f3 x.2 = 1 ∧ ¬ q_fw x = 0) ∨ (q_f3 x.2 = 0 ∧ q_fw x = 0) := by
  unfold q_f3 q_fw
  by_cases hc : x.2.2.1 = true ∧ 3 ≤ x.2.1
  · rw [if_pos hc, if_pos hc]; exact Or.inl ⟨rfl, by decide⟩
  · rw [if_neg hc, if_neg hc]; exact Or.inr ⟨rfl, rfl⟩
set_option maxHeartbeats 4000000 in
set_option maxRecDepth 100000 in
theorem c0_Shelf_faults (l : Launch) (E : qE) (S : qS) (c9 h ar t n9 f9 tm : Nat) (P : List q_X) (ns : List Nat) (rows : Nat → List Nat) (hC : q_C S c9 n9 f9 tm P h ar t ns rows) (hu : ∀ x ∈ P, x.2.2.1 = false → 3 ≤ x.2.1) (post : Int32 → qS → Prop) (hpost : ∀ r S1, (r = 0 ∧ q_CC S1 c9 n9 f9 tm P h ar t ∧ q_ft S S1) → post r S1) : q_Mi l yX5_faults cX5_faults 6 .int { frames := 3, cells := 1, slots := 2, locals := 71 } E [.ref c9] S (post) 1 2 := by
  refine q_ofW1 (by decide) (q_1c rfl q_1n) (Nat.le_of_ble_eq_true rfl) (fun p e s m below meth c C hV hr hlk hnm ls hl => ?_)
  have hl : lv_has ls 6 [(0, va_rf (some c9))] := hl
  obtain ⟨hL_c9, hK_c9, hR8, hL_h, hK_h, hJ⟩ := q_C_cl hC
  have loop : ∀ (k : Nat) (pp : Option Nat) (i5 sh du : Int32) (D R : List q_X) (S' : qS) (H : Heap) (locs : List Loc) (ls : Array Slot), R.length < k → q_V E s S' H locs → lv_has ls 6 [(5, .int (i5)), (4, va_rf (pp)), (3, .int (sh)), (2, .int (du)), (1, .int (0)), (0, va_rf (some c9))] → q_C S' c9 n9 f9 tm P h ar t ns rows → D ++ R = P → q_ch (S'.R 0) pp (q_ad R) → i5 = nI D.length → sh = nI (q_cn q_f3 (q_vl D)) → du = nI (1 + q_sz D) → (∀ x ∈ D, S'.I 3 x.1 = q_fw x) → q_fr S S' (fun j _ => j = 3) q_c0 q_c0 → W p l e ({ frames := 3, cells := 1, slots := 2, locals := 71 } : Room) s m [.ref c9].toArray below meth c H locs (0) (0) (MQ below (va_Qi (post) (q_B E) E.A) [.ref c9].toArray s (1) (2) E.A) (F0 m 15 ls []) := by
    intro k
    induction k with
    | zero => intro pp i5 sh du D R S' H locs ls hk; exact absurd hk (Nat.not_lt_zero _)
    | succ k ih =>
      intro pp i5 sh du D R S' H locs ls hk hV hl hC9 hDR hch hi5 hsh hdu hfl9 hfS
      have hL_c9 := hC9.1.1
      have hK_c9 := hC9.1.2.1
      refine q_aload (r := pp) C dX5_faults_15 (lv_at hl 1 rfl) ?_
      refine q_ifnull (r := pp) (tgt := 121) C dX5_faults_17 (by decide) (fun c17 => ?_) (fun x17 c17 => ?_)
      · subst c17
        have hRe : R = [] := by cases R with
          | nil => rfl
          | cons y R2 => exact nomatch hch.1
        subst hRe
        rw [List.append_nil] at hDR
        subst hDR
        have hflg : q_flg S' rows (fun _ => True) := fun z _ a ha => by
          obtain ⟨h3, x, hx, e1, e2, e3⟩ := (hC9.2.2.2.2.2.2.1.1 z a).mp ha
          rw [← e1, hfl9 x hx, q_fw, if_pos ⟨e3, by omega⟩]
        have hL_c9 := hC9.1.1
        have hK_c9 := hC9.1.2.1
        have hL_h := hC9.2.2.2.1.1.1
        have hK_h := hC9.2.2.2.1.1.2.1
        refine q_aload (r := none) C dX5_faults_121 (lv_at hl 1 rfl) ?_
        refine q_ifnonnull (r := none) (tgt := 136) C dX5_faults_123 (by decide) (fun _ h => nomatch h) (fun _ => ?_)
        refine lv_iload_n C.1 C.2.1 dX5_faults_126 rfl (lv_at hl 3 rfl) ?_
        refine q_aload_n (r := some c9) C dX5_faults_127 rfl (lv_at hl 5 rfl) ?_
        refine g_Shelf_cellCount C hV hL_c9 hK_c9 (Or.inl wd_194) dX5_faults_128 ?_
        refine q_ti (v' := nI n9) (hC9.1.2.2.1) ?_
        refine lv_iconst (v := 1) C.1 C.2.1 dX5_faults_131 (by decide) ?_
        refine lv_iadd C.1 C.2.1 dX5_faults_132 ?_
        refine lv_icmp_eq (tgt := 139) C.1 C.2.1 dX5_faults_133 (by decide) (fun c133 => ?_) (fun c133 => ?_)
        · subst hsh
          refine lv_iload_n C.1 C.2.1 dX5_faults_139 rfl (lv_at hl 4 rfl) ?_
          refine q_aload_n (r := some c9) C dX5_faults_140 rfl (lv_at hl 5 rfl) ?_
          refine g_Shelf_shelves C hV hL_c9 hK_c9 (Or.inl wd_192) dX5_faults_141 ?_
          refine q_tr (v' := some h) (hC9.2.1) ?_
          refine lv_iload_n C.1 C.2.1 dX5_faults_144 rfl (lv_at hl 2 rfl) ?_
          refine q_aload_n (r := some c9) C dX5_faults_145 rfl (lv_at hl 5 rfl) ?_
          refine g_Shelf_cellCount C hV hL_c9 hK_c9 (Or.inl wd_194) dX5_faults_146 ?_
          refine q_ti (v' := nI n9) (hC9.1.2.2.1) ?_
          refine q_ci hV (q_rN (b := h) (As := [.int (nI (q_cn q_f3 (q_vl D))), .int (nI n9)]) (rest := [.int (0)]) C hV (c_Shelves_wrongThings l E S' h ar t (q_cn q_f3 (q_vl D)) n9 ns rows (q_zf S') hC9.2.2.2.1 hC9.2.2.2.2.1 (q_ns_row hC9) hflg hC9.2.2.2.2.2.2.1.2 (fun z => (q_rw_len hC9 z).1) (q_total hC9).2 (by have := hC9.1.2.2.2.2.2.2.1; omega) (fun z => (q_rw_len hC9 z).2) (q_total hC9).1) wd_260 wd_257 wd_259 wd_16 wd_40 ok_X2_wrongThings ⟨rfl, rfl, Nat.le_of_ble_eq_true rfl, Nat.le_of_ble_eq_true rfl⟩ (q_rc2 hV hL_h hK_h) rfl hl.1 rfl (q_sm (q_1c rfl q_1n) (Nat.le_of_ble_eq_true rfl)) dX5_faults_149 ⟨Nat.le_of_ble_eq_true rfl, Nat.le_of_ble_eq_true rfl⟩) (fun i149 S149 H locs hp149 hV => ?_)
          obtain ⟨rfl, hf149⟩ := hp149
          refine lv_iadd C.1 C.2.1 dX5_faults_152 ?_
          refine q_iret (v := 0 + 0) C hV hr hlk (Nat.le_of_ble_eq_true rfl) (Nat.le_of_ble_eq_true rfl) dX5_faults_153 ?_
          refine hpost _ _ ⟨by decide, ⟨ns, rows, ?_⟩, q_fr_tr (q_fr_mo hfS (fun j _ z => Or.inl z) (fun _ _ z => z.elim) (fun _ _ z => z)) hf149⟩
          exact q_C_fr hC9 hf149 (fun j x z => z.elim Or.inl (fun z => Or.inr (Or.inr (Nat.le_trans (by decide) z)))) (fun j _ z => Nat.le_trans (by decide) (show 12 ≤ j from z)) (fun _ _ z => z) ((hf149.2.1 c9 hC9.1.1 6 (fun e => absurd (show 6 = 3 ∨ 11 ≤ 6 from e) (by decide))).trans hC9.2.2.1)
        · exfalso
          refine c133 ?_
          rw [hdu, hC9.1.2.2.2.2.2.1, nI_1, Nat.add_comm]
      · subst c17
        obtain ⟨y, R2, hRe, hyp⟩ : ∃ y R2, R = y :: R2 ∧ y.1 = x17 := by
          cases R with
          | nil => exact nomatch (show some x17 = none from hch)
          | cons y R2 => exact ⟨y, R2, rfl, (Option.some.inj hch.1).symm⟩
        subst hRe
        subst hyp
        have hCy : q_C S' c9 n9 f9 tm (D ++ y :: R2) h ar t ns rows := by rw [hDR]; exact hC9
        obtain ⟨hL_y, hK_y, hI0y, hI1y, hI2y, -, hy1, hszy, hn9⟩ := q_C_at hCy
        have hyP : y ∈ P := by rw [← hDR]; simp
        have hlen : D.length < n9 := by have := q_line_len hC9.1; rw [← hDR] at this; simp at this; omega
        refine lv_iload C.1 C.2.1 dX5_faults_20 (lv_at hl 0 rfl) ?_
        refine q_aload_n (r := some c9) C dX5_faults_22 rfl (lv_at hl 5 rfl) ?_
        refine g_Shelf_cellCount C hV hL_c9 hK_c9 (Or.inl wd_194) dX5_faults_23 ?_
        refine q_ti (v' := nI n9) (hC9.1.2.2.1) ?_
        refine lv_icmp_ge (tgt := 121) C.1 C.2.1 dX5_faults_26 (by decide) (fun c26 => ?_) (fun c26 => ?_)
        · exfalso
          exact absurd (hi5 ▸ c26) (nI_ge hlen (by omega))
        · refine q_aload (r := some y.1) C dX5_faults_29 (lv_at hl 1 rfl) ?_
          refine g_Piece_at C hV hL_y hK_y (Or.inr ⟨_, wd_137⟩) dX5_faults_31 ?_
          refine q_ti (v' := nI (1 + q_sz D)) (hI0y) ?_
          refine lv_iload_n C.1 C.2.1 dX5_faults_34 rfl (lv_at hl 3 rfl) ?_
          refine lv_icmp_eq (tgt := 41) C.1 C.2.1 dX5_faults_35 (by decide) (fun c35 => ?_) (fun c35 => ?_)
          · refine q_aload (r := some y.1) C dX5_faults_41 (lv_at hl 1 rfl) ?_
            refine g_Piece_cells C hV hL_y hK_y (Or.inr ⟨_, wd_139⟩) dX5_faults_43 ?_
            refine q_ti (v' := nI y.2.1) (hI1y) ?_
            refine lv_iconst (v := 1) C.1 C.2.1 dX5_faults_46 (by decide) ?_
            refine lv_icmp_lt (tgt := 67) C.1 C.2.1 dX5_faults_47 (by decide) (fun c47 => ?_) (fun c47 => ?_)
            · exfalso
              exact absurd ((nI_ltI (by omega) (by omega)).mp (show nI y.2.1 < nI 1 from c47)) (by omega)
            · refine q_aload (r := some y.1) C dX5_faults_50 (lv_at hl 1 rfl) ?_
              refine g_Piece_isFree C hV hL_y hK_y (Or.inr ⟨_, wd_142⟩) dX5_faults_52 ?_
              refine q_ti (v' := q_fl y.2.2.1) (hI2y) ?_
              refine lv_if_ne (tgt := 70) C.1 C.2.1 dX5_faults_55 (by decide) (fun c55 => ?_) (fun c55 => ?_)
              · refine q_aload (r := some y.1) C dX5_faults_70 (lv_at hl 1 rfl) ?_
                refine q_aload (r := some y.1) C dX5_faults_72 (lv_at hl 1 rfl) ?_
                refine q_ci hV (q_rN (b := y.1) (As := []) (rest := [va_rf (some y.1)]) C hV (c_Piece_isShelved l E S' y.1 hL_y hK_y) wd_256 wd_253 wd_255 wd_15 wd_43 ok_X0_isShelved ⟨rfl, rfl, Nat.le_of_ble_eq_true rfl, Nat.le_of_ble_eq_true rfl⟩ (q_rc0 hV hL_y hK_y) rfl hl.1 rfl (q_sm (q_1c (q_cat _) q_1n) (Nat.le_of_ble_eq_true rfl)) dX5_faults_74 ⟨Nat.le_of_ble_eq_true rfl, Nat.le_of_ble_eq_true rfl⟩) (fun i74 S74 H locs hp74 hV => ?_)
                obtain ⟨eS74, hp74⟩ := hp74
                rw [eS74] at hV
                rw [q_fw_is hI1y hI2y (by omega)] at hp74
                subst hp74
                refine p_Piece_awaited (v := q_fw y) C hV hL_y hK_y (by unfold q_fw; split <;> simp) (Or.inr ⟨_, wd_150⟩) dX5_faults_77 (fun H locs hV => ?_)
                obtain ⟨S7, hS7⟩ : ∃ X : qS, X = S'.sI 3 y.1 (q_fw y) := ⟨_, rfl⟩
                have hV : q_V E s S7 H locs := by rw [hS7]; exact hV
                have hf7 : q_fr S' S7 (fun j x => j = 3 ∧ x = y.1) q_c0 q_c0 := by rw [hS7]; exact q_fr_sI ⟨rfl, rfl⟩
                have hC7 : q_C S7 c9 n9 f9 tm P h ar t ns rows := q_C_fr hC9 hf7 (fun j x z => Or.inl z.1) (fun _ _ z => z.elim) (fun _ _ z => z) ((hf7.2.1 c9 hC9.1.1 6 (fun e => absurd e.1 (by decide))).trans hC9.2.2.1)
                have hC7y : q_C S7 c9 n9 f9 tm (D ++ y :: R2) h ar t ns rows := by rw [hDR]; exact hC7
                obtain ⟨hL_y7, hK_y7, hI0y7, hI1y7, -, hch7, -, -, -⟩ := q_C_at hC7y
                have hI3y7 : S7.I 3 y.1 = q_fw y := by rw [hS7]; exact qI_self _ _ _ _
                have hfl7 : ∀ x ∈ D ++ [y], S7.I 3 x.1 = q_fw x := fun x hx => by
                  rcases List.mem_append.mp hx with hx | hx
                  · have hne : x.1 ≠ y.1 := q_nd_mid (q_line_nd hCy.1) x (List.mem_append_left _ hx)
                    have hxL : x.1 ∈ S'.L := by obtain ⟨b, hb⟩ := q_pcs_mem hC9.1.2.2.2.2.1 (show x ∈ P by rw [← hDR]; exact List.mem_append_left _ hx); exact hb.1
                    rw [hf7.2.1 x.1 hxL 3 (fun e => hne e.2)]; exact hfl9 x hx
                  · rw [List.mem_singleton.mp hx]; exact hI3y7
                refine lv_iload_n C.1 C.2.1 dX5_faults_80 rfl (lv_at hl 2 rfl) ?_
                refine q_aload (r := some y.1) C dX5_faults_81 (lv_at hl 1 rfl) ?_
                refine g_Piece_awaited C hV hL_y7 hK_y7 (Or.inr ⟨_, wd_150⟩) dX5_faults_83 ?_
                refine q_ti (v' := q_fw y) (hI3y7) ?_
                refine lv_if_eq (tgt := 93) C.1 C.2.1 dX5_faults_86 (by decide) (fun c86 => ?_) (fun c86 => ?_)
                · refine lv_iconst (v := 0) C.1 C.2.1 dX5_faults_93 (by decide) ?_
                  refine lv_iadd C.1 C.2.1 dX5_faults_94 ?_
                  refine q_istore_n (x := sh + 0) (lv' := [(3, .int (sh + 0)), (5, .int (i5)), (4, va_rf (some y.1)), (2, .int (du)), (1, .int (0)), (0, va_rf (some c9))]) C dX5_faults_95 rfl hl (by decide) (q_k0 (q_kN 0 rfl (by decide) (by decide) (q_kN 1 rfl (by decide) (by decide) (q_kC 3 rfl (by decide) rfl (q_kN 4 rfl (by decide) (by decide) (q_kN 5 rfl (by decide) (by decide) q_kz)))))) (fun ls hl => ?_)
                  refine q_aload (r := some y.1) C dX5_faults_96 (lv_at hl 2 rfl) ?_
                  refine g_Piece_at C hV hL_y7 hK_y7 (Or.inr ⟨_, wd_137⟩) dX5_faults_98 ?_
                  refine q_ti (v' := nI (1 + q_sz D)) (hI0y7) ?_
                  refine q_aload (r := some y.1) C dX5_faults_101 (lv_at hl 2 rfl) ?_
                  refine g_Piece_cells C hV hL_y7 hK_y7 (Or.inr ⟨_, wd_139⟩) dX5_faults_103 ?_
                  refine q_ti (v' := nI y.2.1) (hI1y7) ?_
                  refine lv_iadd C.1 C.2.1 dX5_faults_106 ?_
                  refine q_istore_n (x := (nI (1 + q_sz D)) + (nI y.2.1)) (lv' := [(2, .int ((nI (1 + q_sz D)) + (nI y.2.1))), (3, .int (sh + 0)), (5, .int (i5)), (4, va_rf (some y.1)), (1, .int (0)), (0, va_rf (some c9))]) C dX5_faults_107 rfl hl (by decide) (q_k0 (q_kN 0 rfl (by decide) (by decide) (q_kN 1 rfl (by decide) (by decide) (q_kN 2 rfl (by decide) (by decide) (q_kC 4 rfl (by decide) rfl (q_kN 5 rfl (by decide) (by decide) q_kz)))))) (fun ls hl => ?_)
                  refine q_aload (r := some y.1) C dX5_faults_108 (lv_at hl 3 rfl) ?_
                  refine g_Piece_behind C hV hL_y7 hK_y7 (Or.inr ⟨_, wd_146⟩) dX5_faults_110 ?_
                  refine q_nr (fun r110 h110 => ?_)
                  refine q_astore (r := r110) (lv' := [(4, va_rf (r110)), (2, .int ((nI (1 + q_sz D)) + (nI y.2.1))), (3, .int (sh + 0)), (5, .int (i5)), (1, .int (0)), (0, va_rf (some c9))]) C dX5_faults_113 hl (by decide) (q_k0 (q_kN 0 rfl (by decide) (by decide) (q_kC 1 rfl (by decide) rfl (q_kN 2 rfl (by decide) (by decide) (q_kN 4 rfl (by decide) (by decide) (q_kN 5 rfl (by decide) (by decide) q_kz)))))) (fun ls hl => ?_)
                  obtain ⟨i115, e115⟩ : ∃ y : Int32, y = i5 + 1 := ⟨_, rfl⟩
                  refine q_iinc (v := i115) (k := 3) (lv' := [(5, .int (i115)), (4, va_rf (r110)), (2, .int ((nI (1 + q_sz D)) + (nI y.2.1))), (3, .int (sh + 0)), (1, .int (0)), (0, va_rf (some c9))]) C dX5_faults_115 hl rfl (by rw [e115]; rfl) (by decide) (q_k0 (q_kC 0 rfl (by decide) (q_cat _) (q_kN 1 rfl (by decide) (by decide) (q_kN 2 rfl (by decide) (by decide) (q_kN 4 rfl (by decide) (by decide) (q_kN 5 rfl (by decide) (by decide) q_kz)))))) (fun ls hl => ?_)
                  refine lv_goto (tgt := 15) C.1 C.2.1 dX5_faults_118 (by decide) ?_
                  have hsh9 : sh + 0 = nI (q_cn q_f3 (q_vl (D ++ [y]))) := by
                    rw [hsh, q_vl_app, q_cn_app]
                    rcases q_f3_fw y with ⟨h1, h2⟩ | ⟨h1, h2⟩
                    · exact absurd c86 h2
                    · show nI _ + 0 = nI (_ + (q_f3 y.2 + 0)); rw [h1]; exact Int32.add_zero _
                  subst h110
                  exact ih (S7.R 0 y.1) i115 _ _ (D ++ [y]) R2 S7 H locs ls (by simp at hk; omega) hV (lv_sub hl [0, 1, 3, 2, 4, 5] rfl) hC7 (by rw [← hDR]; simp) hch7 (by rw [e115, hi5, nI_1]; simp) hsh9 (by rw [nI_add, q_sz_app]; exact congrArg nI (by simp only [q_sz]; omega)) hfl7 (q_fr_tr hfS (q_fr_mo hf7 (fun _ _ z => z.1) (fun _ _ z => z) (fun _ _ z => z)))
                · refine lv_iconst (v := 1) C.1 C.2.1 dX5_faults_89 (by decide) ?_
                  refine lv_goto (tgt := 94) C.1 C.2.1 dX5_faults_90 (by decide) ?_
                  refine lv_iadd C.1 C.2.1 dX5_faults_94 ?_
                  refine q_istore_n (x := sh + 1) (lv' := [(3, .int (sh + 1)), (5, .int (i5)), (4, va_rf (some y.1)), (2, .int (du)), (1, .int (0)), (0, va_rf (some c9))]) C dX5_faults_95 rfl hl (by decide) (q_k0 (q_kN 0 rfl (by decide) (by decide) (q_kN 1 rfl (by decide) (by decide) (q_kC 3 rfl (by decide) rfl (q_kN 4 rfl (by decide) (by decide) (q_kN 5 rfl (by decide) (by decide) q_kz)))))) (fun ls hl => ?_)
                  refine q_aload (r := some y.1) C dX5_faults_96 (lv_at hl 2 rfl) ?_
                  refine g_Piece_at C hV hL_y7 hK_y7 (Or.inr ⟨_, wd_137⟩) dX5_faults_98 ?_
                  refine q_ti (v' := nI (1 + q_sz D)) (hI0y7) ?_
                  refine q_aload (r := some y.1) C dX5_faults_101 (lv_at hl 2 rfl) ?_
                  refine g_Piece_cells C hV hL_y7 hK_y7 (Or.inr ⟨_, wd_139⟩) dX5_faults_103 ?_
                  refine q_ti (v' := nI y.2.1) (hI1y7) ?_
                  refine lv_iadd C.1 C.2.1 dX5_faults_106 ?_
                  refine q_istore_n (x := (nI (1 + q_sz D)) + (nI y.2.1)) (lv' := [(2, .int ((nI (1 + q_sz D)) + (nI y.2.1))), (3, .int (sh + 1)), (5, .int (i5)), (4, va_rf (some y.1)), (1, .int (0)), (0, va_rf (some c9))]) C dX5_faults_107 rfl hl (by decide) (q_k0 (q_kN 0 rfl (by decide) (by decide) (q_kN 1 rfl (by decide) (by decide) (q_kN 2 rfl (by decide) (by decide) (q_kC 4 rfl (by decide) rfl (q_kN 5 rfl (by decide) (by decide) q_kz)))))) (fun ls hl => ?_)
                  refine q_aload (r := some y.1) C dX5_faults_108 (lv_at hl 3 rfl) ?_
                  refine g_Piece_behind C hV hL_y7 hK_y7 (Or.inr ⟨_, wd_146⟩) dX5_faults_110 ?_
                  refine q_nr (fun r110 h110 => ?_)
                  refine q_astore (r := r110) (lv' := [(4, va_rf (r110)), (2, .int ((nI (1 + q_sz D)) + (nI y.2.1))), (3, .int (sh + 1)), (5, .int (i5)), (1, .int (0)), (0, va_rf (some c9))]) C dX5_faults_113 hl (by decide) (q_k0 (q_kN 0 rfl (by decide) (by decide) (q_kC 1 rfl (by decide) rfl (q_kN 2 rfl (by decide) (by decide) (q_kN 4 rfl (by decide) (by decide) (q_kN 5 rfl (by decide) (by decide) q_kz)))))) (fun ls hl => ?_)
                  obtain ⟨i115, e115⟩ : ∃ y : Int32, y = i5 + 1 := ⟨_, rfl⟩
                  refine q_iinc (v := i115) (k := 3) (lv' := [(5, .int (i115)), (4, va_rf (r110)), (2, .int ((nI (1 + q_sz D)) + (nI y.2.1))), (3, .int (sh + 1)), (1, .int (0)), (0, va_rf (some c9))]) C dX5_faults_115 hl rfl (by rw [e115]; rfl) (by decide) (q_k0 (q_kC 0 rfl (by decide) (q_cat _) (q_kN 1 rfl (by decide) (by decide) (q_kN 2 rfl (by decide) (by decide) (q_kN 4 rfl (by decide) (by decide) (q_kN 5 rfl (by decide) (by decide) q_kz)))))) (fun ls hl => ?_)
                  refine lv_goto (tgt := 15) C.1 C.2.1 dX5_faults_118 (by decide) ?_
                  have hsh9 : sh + 1 = nI (q_cn q_f3 (q_vl (D ++ [y]))) := by
                    rw [hsh, q_vl_app, q_cn_app]
                    rcases q_f3_fw y with ⟨h1, h2⟩ | ⟨h1, h2⟩
                    · show nI _ + 1 = nI (_ + (q_f3 y.2 + 0)); rw [h1]; exact nI_1 _
                    · exact absurd h2 c86
                  subst h110
                  exact ih (S7.R 0 y.1) i115 _ _ (D ++ [y]) R2 S7 H locs ls (by simp at hk; omega) hV (lv_sub hl [0, 1, 3, 2, 4, 5] rfl) hC7 (by rw [← hDR]; simp) hch7 (by rw [e115, hi5, nI_1]; simp) hsh9 (by rw [nI_add, q_sz_app]; exact congrArg nI (by simp only [q_sz]; omega)) hfl7 (q_fr_tr hfS (q_fr_mo hf7 (fun _ _ z => z.1) (fun _ _ z => z) (fun _ _ z => z)))
              · refine q_aload (r := some y.1) C dX5_faults_58 (lv_at hl 1 rfl) ?_
                refine g_Piece_cells C hV hL_y hK_y (Or.inr ⟨_, wd_139⟩) dX5_faults_60 ?_
                refine q_ti (v' := nI y.2.1) (hI1y) ?_
                refine lv_iconst (v := 3) C.1 C.2.1 dX5_faults_63 (by decide) ?_
                refine lv_icmp_ge (tgt := 70) C.1 C.2.1 dX5_faults_64 (by decide) (fun c64 => ?_) (fun c64 => ?_)
                · refine q_aload (r := some y.1) C dX5_faults_70 (lv_at hl 1 rfl) ?_
                  refine q_aload (r := some y.1) C dX5_faults_72 (lv_at hl 1 rfl) ?_
                  refine q_ci hV (q_rN (b := y.1) (As := []) (rest := [va_rf (some y.1)]) C hV (c_Piece_isShelved l E S' y.1 hL_y hK_y) wd_256 wd_253 wd_255 wd_15 wd_43 ok_X0_isShelved ⟨rfl, rfl, Nat.le_of_ble_eq_true rfl, Nat.le_of_ble_eq_true rfl⟩ (q_rc0 hV hL_y hK_y) rfl hl.1 rfl (q_sm (q_1c (q_cat _) q_1n) (Nat.le_of_ble_eq_true rfl)) dX5_faults_74 ⟨Nat.le_of_ble_eq_true rfl, Nat.le_of_ble_eq_true rfl⟩) (fun i74 S74 H locs hp74 hV => ?_)
                  obtain ⟨eS74, hp74⟩ := hp74
                  rw [eS74] at hV
                  rw [q_fw_is hI1y hI2y (by omega)] at hp74
                  subst hp74
                  refine p_Piece_awaited (v := q_fw y) C hV hL_y hK_y (by unfold q_fw; split <;> simp) (Or.inr ⟨_, wd_150⟩) dX5_faults_77 (fun H locs hV => ?_)
                  obtain ⟨S7, hS7⟩ : ∃ X : qS, X = S'.sI 3 y.1 (q_fw y) := ⟨_, rfl⟩
                  have hV : q_V E s S7 H locs := by rw [hS7]; exact hV
                  have hf7 : q_fr S' S7 (fun j x => j = 3 ∧ x = y.1) q_c0 q_c0 := by rw [hS7]; exact q_fr_sI ⟨rfl, rfl⟩
                  have hC7 : q_C S7 c9 n9 f9 tm P h ar t ns rows := q_C_fr hC9 hf7 (fun j x z => Or.inl z.1) (fun _ _ z => z.elim) (fun _ _ z => z) ((hf7.2.1 c9 hC9.1.1 6 (fun e => absurd e.1 (by decide))).trans hC9.2.2.1)
                  have hC7y : q_C S7 c9 n9 f9 tm (D ++ y :: R2) h ar t ns rows := by rw [hDR]; exact hC7
                  obtain ⟨hL_y7, hK_y7, hI0y7, hI1y7, -, hch7, -, -, -⟩ := q_C_at hC7y
                  have hI3y7 : S7.I 3 y.1 = q_fw y := by rw [hS7]; exact qI_self _ _ _ _
                  have hfl7 : ∀ x ∈ D ++ [y], S7.I 3 x.1 = q_fw x := fun x hx => by
                    rcases List.mem_append.mp hx with hx | hx
                    · have hne : x.1 ≠ y.1 := q_nd_mid (q_line_nd hCy.1) x (List.mem_append_left _ hx)
                      have hxL : x.1 ∈ S'.L := by obtain ⟨b, hb⟩ := q_pcs_mem hC9.1.2.2.2.2.1 (show x ∈ P by rw [← hDR]; exact List.mem_append_left _ hx); exact hb.1
                      rw [hf7.2.1 x.1 hxL 3 (fun e => hne e.2)]; exact hfl9 x hx
                    · rw [List.mem_singleton.mp hx]; exact hI3y7
                  refine lv_iload_n C.1 C.2.1 dX5_faults_80 rfl (lv_at hl 2 rfl) ?_
                  refine q_aload (r := some y.1) C dX5_faults_81 (lv_at hl 1 rfl) ?_
                  refine g_Piece_awaited C hV hL_y7 hK_y7 (Or.inr ⟨_, wd_150⟩) dX5_faults_83 ?_
                  refine q_ti (v' := q_fw y) (hI3y7) ?_
                  refine lv_if_eq (tgt := 93) C.1 C.2.1 dX5_faults_86 (by decide) (fun c86 => ?_) (fun c86 => ?_)
                  · refine lv_iconst (v := 0) C.1 C.2.1 dX5_faults_93 (by decide) ?_
                    refine lv_iadd C.1 C.2.1 dX5_faults_94 ?_
                    refine q_istore_n (x := sh + 0) (lv' := [(3, .int (sh + 0)), (5, .int (i5)), (4, va_rf (some y.1)), (2, .int (du)), (1, .int (0)), (0, va_rf (some c9))]) C dX5_faults_95 rfl hl (by decide) (q_k0 (q_kN 0 rfl (by decide) (by decide) (q_kN 1 rfl (by decide) (by decide) (q_kC 3 rfl (by decide) rfl (q_kN 4 rfl (by decide) (by decide) (q_kN 5 rfl (by decide) (by decide) q_kz)))))) (fun ls hl => ?_)
                    refine q_aload (r := some y.1) C dX5_faults_96 (lv_at hl 2 rfl) ?_
                    refine g_Piece_at C hV hL_y7 hK_y7 (Or.inr ⟨_, wd_137⟩) dX5_faults_98 ?_
                    refine q_ti (v' := nI (1 + q_sz D)) (hI0y7) ?_
                    refine q_aload (r := some y.1) C dX5_faults_101 (lv_at hl 2 rfl) ?_
                    refine g_Piece_cells C hV hL_y7 hK_y7 (Or.inr ⟨_, wd_139⟩) dX5_faults_103 ?_
                    refine q_ti (v' := nI y.2.1) (hI1y7) ?_
                    refine lv_iadd C.1 C.2.1 dX5_faults_106 ?_
                    refine q_istore_n (x := (nI (1 + q_sz D)) + (nI y.2.1)) (lv' := [(2, .int ((nI (1 + q_sz D)) + (nI y.2.1))), (3, .int (sh + 0)), (5, .int (i5)), (4, va_rf (some y.1)), (1, .int (0)), (0, va_rf (some c9))]) C dX5_faults_107 rfl hl (by decide) (q_k0 (q_kN 0 rfl (by decide) (by decide) (q_kN 1 rfl (by decide) (by decide) (q_kN 2 rfl (by decide) (by decide) (q_kC 4 rfl (by decide) rfl (q_kN 5 rfl (by decide) (by decide) q_kz)))))) (fun ls hl => ?_)
                    refine q_aload (r := some y.1) C dX5_faults_108 (lv_at hl 3 rfl) ?_
                    refine g_Piece_behind C hV hL_y7 hK_y7 (Or.inr ⟨_, wd_146⟩) dX5_faults_110 ?_
                    refine q_nr (fun r110 h110 => ?_)
                    refine q_astore (r := r110) (lv' := [(4, va_rf (r110)), (2, .int ((nI (1 + q_sz D)) + (nI y.2.1))), (3, .int (sh + 0)), (5, .int (i5)), (1, .int (0)), (0, va_rf (some c9))]) C dX5_faults_113 hl (by decide) (q_k0 (q_kN 0 rfl (by decide) (by decide) (q_kC 1 rfl (by decide) rfl (q_kN 2 rfl (by decide) (by decide) (q_kN 4 rfl (by decide) (by decide) (q_kN 5 rfl (by decide) (by decide) q_kz)))))) (fun ls hl => ?_)
                    obtain ⟨i115, e115⟩ : ∃ y : Int32, y = i5 + 1 := ⟨_, rfl⟩
                    refine q_iinc (v := i115) (k := 3) (lv' := [(5, .int (i115)), (4, va_rf (r110)), (2, .int ((nI (1 + q_sz D)) + (nI y.2.1))), (3, .int (sh + 0)), (1, .int (0)), (0, va_rf (some c9))]) C dX5_faults_115 hl rfl (by rw [e115]; rfl) (by decide) (q_k0 (q_kC 0 rfl (by decide) (q_cat _) (q_kN 1 rfl (by decide) (by decide) (q_kN 2 rfl (by decide) (by decide) (q_kN 4 rfl (by decide) (by decide) (q_kN 5 rfl (by decide) (by decide) q_kz)))))) (fun ls hl => ?_)
                    refine lv_goto (tgt := 15) C.1 C.2.1 dX5_faults_118 (by decide) ?_
                    have hsh9 : sh + 0 = nI (q_cn q_f3 (q_vl (D ++ [y]))) := by
                      rw [hsh, q_vl_app, q_cn_app]
                      rcases q_f3_fw y with ⟨h1, h2⟩ | ⟨h1, h2⟩
                      · exact absurd c86 h2
                      · show nI _ + 0 = nI (_ + (q_f3 y.2 + 0)); rw [h1]; exact Int32.add_zero _
                    subst h110
                    exact ih (S7.R 0 y.1) i115 _ _ (D ++ [y]) R2 S7 H locs ls (by simp at hk; omega) hV (lv_sub hl [0, 1, 3, 2, 4, 5] rfl) hC7 (by rw [← hDR]; simp) hch7 (by rw [e115, hi5, nI_1]; simp) hsh9 (by rw [nI_add, q_sz_app]; exact congrArg nI (by simp only [q_sz]; omega)) hfl7 (q_fr_tr hfS (q_fr_mo hf7 (fun _ _ z => z.1) (fun _ _ z => z) (fun _ _ z => z)))
                  · refine lv_iconst (v := 1) C.1 C.2.1 dX5_faults_89 (by decide) ?_
                    refine lv_goto (tgt := 94) C.1 C.2.1 dX5_faults_90 (by decide) ?_
                    refine lv_iadd C.1 C.2.1 dX5_faults_94 ?_
                    refine q_istore_n (x := sh + 1) (lv' := [(3, .int (sh + 1)), (5, .int (i5)), (4, va_rf (some y.1)), (2, .int (du)), (1, .int (0)), (0, va_rf (some c9))]) C dX5_faults_95 rfl hl (by decide) (q_k0 (q_kN 0 rfl (by decide) (by decide) (q_kN 1 rfl (by decide) (by decide) (q_kC 3 rfl (by decide) rfl (q_kN 4 rfl (by decide) (by decide) (q_kN 5 rfl (by decide) (by decide) q_kz)))))) (fun ls hl => ?_)
                    refine q_aload (r := some y.1) C dX5_faults_96 (lv_at hl 2 rfl) ?_
                    refine g_Piece_at C hV hL_y7 hK_y7 (Or.inr ⟨_, wd_137⟩) dX5_faults_98 ?_
                    refine q_ti (v' := nI (1 + q_sz D)) (hI0y7) ?_
                    refine q_aload (r := some y.1) C dX5_faults_101 (lv_at hl 2 rfl) ?_
                    refine g_Piece_cells C hV hL_y7 hK_y7 (Or.inr ⟨_, wd_139⟩) dX5_faults_103 ?_
                    refine q_ti (v' := nI y.2.1) (hI1y7) ?_
                    refine lv_iadd C.1 C.2.1 dX5_faults_106 ?_
                    refine q_istore_n (x := (nI (1 + q_sz D)) + (nI y.2.1)) (lv' := [(2, .int ((nI (1 + q_sz D)) + (nI y.2.1))), (3, .int (sh + 1)), (5, .int (i5)), (4, va_rf (some y.1)), (1, .int (0)), (0, va_rf (some c9))]) C dX5_faults_107 rfl hl (by decide) (q_k0 (q_kN 0 rfl (by decide) (by decide) (q_kN 1 rfl (by decide) (by decide) (q_kN 2 rfl (by decide) (by decide) (q_kC 4 rfl (by decide) rfl (q_kN 5 rfl (by decide) (by decide) q_kz)))))) (fun ls hl => ?_)
                    refine q_aload (r := some y.1) C dX5_faults_108 (lv_at hl 3 rfl) ?_
                    refine g_Piece_behind C hV hL_y7 hK_y7 (Or.inr ⟨_, wd_146⟩) dX5_faults_110 ?_
                    refine q_nr (fun r110 h110 => ?_)
                    refine q_astore (r := r110) (lv' := [(4, va_rf (r110)), (2, .int ((nI (1 + q_sz D)) + (nI y.2.1))), (3, .int (sh + 1)), (5, .int (i5)), (1, .int (0)), (0, va_rf (some c9))]) C dX5_faults_113 hl (by decide) (q_k0 (q_kN 0 rfl (by decide) (by decide) (q_kC 1 rfl (by decide) rfl (q_kN 2 rfl (by decide) (by decide) (q_kN 4 rfl (by decide) (by decide) (q_kN 5 rfl (by decide) (by decide) q_kz)))))) (fun ls hl => ?_)
                    obtain ⟨i115, e115⟩ : ∃ y : Int32, y = i5 + 1 := ⟨_, rfl⟩
                    refine q_iinc (v := i115) (k := 3) (lv' := [(5, .int (i115)), (4, va_rf (r110)), (2, .int ((nI (1 + q_sz D)) + (nI y.2.1))), (3, .int (sh + 1)), (1, .int (0)), (0, va_rf (some c9))]) C dX5_faults_115 hl rfl (by rw [e115]; rfl) (by decide) (q_k0 (q_kC 0 rfl (by decide) (q_cat _) (q_kN 1 rfl (by decide) (by decide) (q_kN 2 rfl (by decide) (by decide) (q_kN 4 rfl (by decide) (by decide) (q_kN 5 rfl (by decide) (by decide) q_kz)))))) (fun ls hl => ?_)
                    refine lv_goto (tgt := 15) C.1 C.2.1 dX5_faults_118 (by decide) ?_
                    have hsh9 : sh + 1 = nI (q_cn q_f3 (q_vl (D ++ [y]))) := by
                      rw [hsh, q_vl_app, q_cn_app]
                      rcases q_f3_fw y with ⟨h1, h2⟩ | ⟨h1, h2⟩
                      · show nI _ + 1 = nI (_ + (q_f3 y.2 + 0)); rw [h1]; exact nI_1 _
                      · exact absurd h2 c86
                    subst h110
                    exact ih (S7.R 0 y.1) i115 _ _ (D ++ [y]) R2 S7 H locs ls (by simp at hk; omega) hV (lv_sub hl [0, 1, 3, 2, 4, 5] rfl) hC7 (by rw [← hDR]; simp) hch7 (by rw [e115, hi5, nI_1]; simp) hsh9 (by rw [nI_add, q_sz_app]; exact congrArg nI (by simp only [q_sz]; omega)) hfl7 (q_fr_tr hfS (q_fr_mo hf7 (fun _ _ z => z.1) (fun _ _ z => z) (fun _ _ z => z)))
                · exfalso
                  have h3 := hu y hyP (q_fl0.mp c55)
                  exact c64 (nI_le h3 (by omega))
          · exfalso
            exact c35 hdu.symm
  refine lv_iconst (v := 0) C.1 C.2.1 dX5_faults_0 (by decide) ?_
  refine q_istore_n (x := 0) (lv' := [(1, .int (0)), (0, va_rf (some c9))]) C dX5_faults_1 rfl hl (by decide) (q_k0 (q_kC 0 rfl (by decide) (q_cat _) q_kz)) (fun ls hl => ?_)
  refine lv_iconst (v := 1) C.1 C.2.1 dX5_faults_2 (by decide) ?_
  refine q_istore_n (x := 1) (lv' := [(2, .int (1)), (1, .int (0)), (0, va_rf (some c9))]) C dX5_faults_3 rfl hl (by decide) (q_k0 (q_kC 0 rfl (by decide) rfl (q_kN 1 rfl (by decide) (by decide) q_kz))) (fun ls hl => ?_)
  refine lv_iconst (v := 0) C.1 C.2.1 dX5_faults_4 (by decide) ?_
  refine q_istore_n (x := 0) (lv' := [(3, .int (0)), (2, .int (1)), (1, .int (0)), (0, va_rf (some c9))]) C dX5_faults_5 rfl hl (by decide) (q_k0 (q_kC 0 rfl (by decide) rfl (q_kN 1 rfl (by decide) (by decide) (q_kN 2 rfl (by decide) (by decide) q_kz)))) (fun ls hl => ?_)
  refine q_aload_n (r := some c9) C dX5_faults_6 rfl (lv_at hl 3 rfl) ?_
  refine g_Shelf_lowest C hV hL_c9 hK_c9 (Or.inl wd_193) dX5_faults_7 ?_
  refine q_nr (fun r7 h7 => ?_)
  refine q_astore (r := r7) (lv' := [(4, va_rf (r7)), (3, .int (0)), (2, .int (1)), (1, .int (0)), (0, va_rf (some c9))]) C dX5_faults_10 hl (by decide) (q_k0 (q_kC 0 rfl (by decide) rfl (q_kN 1 rfl (by decide) (by decide) (q_kN 2 rfl (by decide) (by decide) (q_kN 3 rfl (by decide) (by decide) q_kz))))) (fun ls hl => ?_)
  refine lv_iconst (v := 0) C.1 C.2.1 dX5_faults_12 (by decide) ?_
  refine q_istore (x := 0) (lv' := [(5, .int (0)), (4, va_rf (r7)), (3, .int (0)), (2, .int (1)), (1, .int (0)), (0, va_rf (some c9))]) C dX5_faults_13 hl (by decide) (q_k0 (q_kC 0 rfl (by decide) (q_cat _) (q_kN 1 rfl (by decide) (by decide) (q_kN 2 rfl (by decide) (by decide) (q_kN 3 rfl (by decide) (by decide) (q_kN 4 rfl (by decide) (by decide) q_kz)))))) (fun ls hl => ?_)
  exact loop (P.length + 1) r7 0 0 1 [] P S s.heap [] ls (Nat.lt_succ_self _) hV hl hC (List.nil_append _) (by rw [h7]; exact hC.1.2.2.2.1) nI_0.symm nI_0.symm (by decide) (fun y hy => nomatch hy) q_fr_rf
theorem c_Shelf_faults (l : Launch) (E : qE) (S : qS) (c9 h ar t n9 f9 tm : Nat) (P : List q_X) (ns : List Nat) (rows : Nat → List Nat) (hC : q_C S c9 n9 f9 tm P h ar t ns rows) (hu : ∀ x ∈ P, x.2.2.1 = false → 3 ≤ x.2.1) : q_Mi l yX5_faults cX5_faults 6 .int { frames := 3, cells := 1, slots := 2, locals := 71 } E [.ref c9] S (fun r S1 => r = 0 ∧ q_CC S1 c9 n9 f9 tm P h ar t ∧ q_ft S S1) 1 2 := c0_Shelf_faults l E S c9 h ar t n9 f9 tm P ns rows hC hu _ (fun _ _ h => h)

