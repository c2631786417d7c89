def v_fl (z : Nat) (ta : Int32) (w : Nat × Bool × Nat) : Nat := if w.2.1 = true ∧ w.1 = z ∧ ta < nI w.2.2 then 1 else 0
theorem v_sg_eq {w : Nat × Bool × Nat} {z : Nat} (hw : w.1 < 2 ^ 31) (hz : z < 2 ^ 31) (hz1 : 1 ≤ z) : v_sg w = 0 - nI z ↔ w.2.1 = true ∧ w.1 = z := by
  rw [q_i_eq, Int32.zero_sub, nI_neg hz]
  cases hf : w.2.1 with
  | true => rw [v_sg_t hf hw]; constructor
            · intro h; exact ⟨rfl, by omega⟩
            · intro h; rw [h.2]
  | false => rw [v_sg_f hf hw]; constructor
             · intro h; omega
             · intro h; exact absurd h.1 (by decide)
theorem q_cn_congr {f g : Nat × Bool × Nat → Nat} : ∀ {V : v_V}, (∀ v ∈ V, f v = g v) → q_cn f V = q_cn g V := by
  intro V
  induction V with
  | nil => intro _; rfl
  | cons v V ih => intro h; simp only [q_cn, h v List.mem_cons_self, ih (fun x hx => h x (List.mem_cons_of_mem _ hx))]
theorem q_cn_len {f : Nat × Bool × Nat → Nat} (h1 : ∀ v, f v ≤ 1) : ∀ {V : v_V}, (∀ v ∈ V, 1 ≤ v.1) → q_cn f V ≤ v_sz V := by
  intro V
  induction V with
  | nil => intro _; exact Nat.le_refl _
  | cons v V ih =>
    intro h
    have h2 := h1 v
    have h3 := h v List.mem_cons_self
    have h4 := ih (fun x hx => h x (List.mem_cons_of_mem _ hx))
    simp only [q_cn, v_sz]
    omega
theorem v_later_1 (z t : Nat) (v : Nat × Bool × Nat) : v_later z t v ≤ 1 := by unfold v_later; split <;> omega
theorem v_fl_later {n tm : Nat} {V : v_V} (hok : v_ok n tm V) {z t : Nat} (ht : t < 2 ^ 30) : q_cn (v_fl z (nI t)) V = q_cn (v_later z t) V := by
  apply q_cn_congr
  intro v hv
  unfold v_fl v_later
  by_cases hc : v.2.1 = true ∧ v.1 = z
  · have hb := hok.2.2.2.2.1 v hv hc.1
    have := hok.2.2.2.2.2.2
    have e : (nI t < nI v.2.2) ↔ t < v.2.2 := nI_ltI (by omega) (by omega)
    by_cases h : t < v.2.2
    · rw [if_pos ⟨hc.1, hc.2, e.mpr h⟩, if_pos ⟨hc.1, hc.2, h⟩]
    · rw [if_neg (fun z => h (e.mp z.2.2)), if_neg (fun z => h z.2.2)]
  · rw [if_neg (fun z => hc ⟨z.1, z.2.1⟩), if_neg (fun z => hc ⟨z.1, z.2.1⟩)]
theorem q_i_gt2 {a b : Int32} : ¬ a ≤ b ↔ b < a := by rw [q_i_lt, q_i_le]; omega
theorem q_i_gt3 {a b : Int32} (h : a < b) : ¬ b ≤ a := by rw [q_i_le]; rw [q_i_lt] at h; omega
set_option maxHeartbeats 4000000 in
set_option maxRecDepth 100000 in
theorem c0_Model_free (l : Launch) (E : qE) (S : qS) (m9 sz9 ti9 n9 f9 tm : Nat) (V : v_V) (hM : q_M S m9 sz9 ti9 n9 f9 tm V) (a k : Int32) (post : Int32 → qS → Prop) (hpost : ∀ r S1, ((0 ≤ k.toInt ∧ S1 = S.sI 7 m9 0 ∧ v_free V a.toInt k.toInt r) ∨ (k.toInt < 0 ∧ S1 = S.sI 7 m9 1 ∧ r = 0)) → post r S1) : q_Mi l yX6_free cX6_free 6 .int { frames := 1, cells := 0, slots := 0, locals := 24 } E [.ref m9, .int a, .int k] S (post) 0 0 := by
  refine q_ofW1 (by decide) (q_1c rfl (q_1c rfl (q_1c rfl q_1n))) (Nat.le_of_ble_eq_true rfl) (fun p e s m below meth c C hV hr hlk hnm ls hl => ?_)
  have hl : lv_has ls 6 [(0, va_rf (some m9)), (1, .int (a)), (2, .int (k))] := hl
  obtain ⟨⟨hL_m9, hK_m9, hR10, hR11⟩, ⟨hL_sz9, hK_sz9, hNs⟩, ⟨hL_ti9, hK_ti9, hNt⟩, hst9, hI8⟩ := hM.1
  have hN_sz9 : S.N sz9 < 2 ^ 31 := by rw [hNs]; decide
  have hN_ti9 : S.N ti9 < 2 ^ 31 := by rw [hNt]; decide
  have hok := hM.2.2.2.1
  have hM7 := q_M_thr hM 0
  have inner : 3 ≤ a.toInt → ∀ (jD : Nat), jD < 16385 → (∀ (H : Heap) (locs : List Loc) (ls : Array Slot), q_V E s (S.sI 7 m9 0) H locs → lv_has ls 6 [(4, .int (nI (q_cn (v_fl a.toInt.toNat (S.A ti9 jD)) V))), (3, .int (nI jD)), (0, va_rf (some m9)), (1, .int (a)), (2, .int (k))] → W p l e ({ frames := 1, cells := 0, slots := 0, locals := 24 } : Room) s m [.ref m9, .int a, .int k].toArray below meth c H locs (0) (0) (MQ below (va_Qi (post) (q_B E) E.A) [.ref m9, .int a, .int k].toArray s (0) (0) E.A) (F0 m 102 ls [])) → ∀ (kz : Nat) (la : Int32) (D R : v_V) (H : Heap) (locs : List Loc) (ls : Array Slot), R.length < kz → q_V E s (S.sI 7 m9 0) H locs → lv_has ls 6 [(5, .int (nI (1 + v_sz D))), (4, .int (la)), (3, .int (nI jD)), (0, va_rf (some m9)), (1, .int (a)), (2, .int (k))] → D ++ R = V → la = nI (q_cn (v_fl a.toInt.toNat (S.A ti9 jD)) D) → W p l e ({ frames := 1, cells := 0, slots := 0, locals := 24 } : Room) s m [.ref m9, .int a, .int k].toArray below meth c H locs (0) (0) (MQ below (va_Qi (post) (q_B E) E.A) [.ref m9, .int a, .int k].toArray s (0) (0) E.A) (F0 m 39 ls []) := by
    intro hz3 jD hjD hK kz
    obtain ⟨ha, ha2⟩ := q_nat (x := a) (by omega)
    induction kz with
    | zero => intro la D R H locs ls hk; exact absurd hk (Nat.not_lt_zero _)
    | succ kz ih =>
      intro la D R H locs ls hk hV hl hDR hla
      refine lv_iload C.1 C.2.1 dX6_free_39 (lv_at hl 0 rfl) ?_
      refine q_aload_n (r := some m9) C dX6_free_41 rfl (lv_at hl 3 rfl) ?_
      refine g_Model_cells C hV hL_m9 hK_m9 (Or.inl wd_486) dX6_free_42 ?_
      refine q_ti (v' := nI n9) (hI8) ?_
      refine lv_icmp_gt (tgt := 102) C.1 C.2.1 dX6_free_45 (by decide) (fun c45 => ?_) (fun c45 => ?_)
      · obtain rfl := v_done hok hDR c45
        rw [List.append_nil] at hDR
        subst hDR
        subst hla
        exact hK H locs ls hV (lv_sub hl [1, 2, 3, 4, 5] rfl)
      · obtain ⟨v, R2, rfl⟩ := v_more hok hDR c45
        have hMv : q_M S m9 sz9 ti9 n9 f9 tm (D ++ v :: R2) := by rw [hDR]; exact hM
        obtain ⟨hAv, -, hTv, hv1, hsz, hn9⟩ := q_M_at hMv
        have hjb : 1 + v_sz D < 16385 := by omega
        have hlnv : v_ln (S.A sz9 (1 + v_sz D)) = nI v.1 := by rw [hAv]; exact v_ln_sg hv1 (by omega)
        have hnx : nI (1 + v_sz D) + nI v.1 = nI (1 + v_sz (D ++ [v])) := by rw [nI_add, v_sz_app]; exact congrArg nI (by simp only [v_sz]; omega)
        refine q_aload_n (r := some m9) C dX6_free_48 rfl (lv_at hl 3 rfl) ?_
        refine g_Model_sizes C hV hL_m9 hK_m9 (Or.inl wd_487) dX6_free_49 ?_
        refine q_tr (v' := some sz9) (hR10) ?_
        refine lv_iload C.1 C.2.1 dX6_free_52 (lv_at hl 0 rfl) ?_
        refine q_iald (j := 1 + v_sz D) C hV hL_sz9 hK_sz9 (rfl) (show 1 + v_sz D < S.N sz9 by rw [hNs]; exact hjb) (hN_sz9) dX6_free_54 ?_
        refine q_ti (v' := v_sg v) (hAv) ?_
        refine lv_iconst (v := 0) C.1 C.2.1 dX6_free_55 (by decide) ?_
        refine lv_iload_n C.1 C.2.1 dX6_free_56 rfl (lv_at hl 4 rfl) ?_
        refine lv_isub C.1 C.2.1 dX6_free_57 ?_
        refine lv_icmp_ne (tgt := 84) C.1 C.2.1 dX6_free_58 (by decide) (fun c58 => ?_) (fun c58 => ?_)
        · refine lv_iload C.1 C.2.1 dX6_free_84 (lv_at hl 1 rfl) ?_
          have hla9 : la = nI (q_cn (v_fl a.toInt.toNat (S.A ti9 jD)) (D ++ [v])) := by
            rw [q_cn_one, hla]
            rw [v_fl, if_neg (fun h => c58 (((v_sg_eq (by omega) (by omega) (by omega)).mpr ⟨h.1, h.2.1⟩).trans (congrArg (fun z => 0 - z) ha.symm)))]
            rfl
          refine q_istore (x := la) (lv' := [(4, .int (la)), (5, .int (nI (1 + v_sz D))), (3, .int (nI jD)), (0, va_rf (some m9)), (1, .int (a)), (2, .int (k))]) C dX6_free_86 hl (by decide) (q_k0 (q_kN 0 rfl (by decide) (by decide) (q_kC 2 rfl (by decide) rfl (q_kN 3 rfl (by decide) (by decide) (q_kN 4 rfl (by decide) (by decide) (q_kN 5 rfl (by decide) (by decide) q_kz)))))) (fun ls hl => ?_)
          refine lv_iload C.1 C.2.1 dX6_free_88 (lv_at hl 1 rfl) ?_
          refine q_aload_n (r := some m9) C dX6_free_90 rfl (lv_at hl 3 rfl) ?_
          refine lv_iload C.1 C.2.1 dX6_free_91 (lv_at hl 1 rfl) ?_
          refine q_ci hV (q_rV (b := m9) (As := [.int (nI (1 + v_sz D))]) (rest := [.int (nI (1 + v_sz D))]) C hV (c_Model_length l E (S.sI 7 m9 0) m9 sz9 ti9 n9 hM7.1 (1 + v_sz D) hjb) wd_535 wd_532 wd_534 wd_34 wd_44 ok_X6_length ⟨rfl, rfl, Nat.le_of_ble_eq_true rfl, Nat.le_of_ble_eq_true rfl⟩ (q_rc5 hV hL_m9 hK_m9) rfl hl.1 rfl (q_sm (q_1c rfl q_1n) (Nat.le_of_ble_eq_true rfl)) dX6_free_93 ⟨Nat.le_of_ble_eq_true rfl, Nat.le_of_ble_eq_true rfl⟩) (fun i93 S93 H locs hp93 hV => ?_)
          obtain ⟨eS93, hp93⟩ := hp93
          rw [eS93] at hV
          replace hp93 := hp93.trans hlnv
          subst hp93
          refine lv_iadd C.1 C.2.1 dX6_free_96 ?_
          refine q_istore (x := (nI (1 + v_sz D)) + (nI v.1)) (lv' := [(5, .int ((nI (1 + v_sz D)) + (nI v.1))), (4, .int (la)), (3, .int (nI jD)), (0, va_rf (some m9)), (1, .int (a)), (2, .int (k))]) C dX6_free_97 hl (by decide) (q_k0 (q_kC 0 rfl (by decide) rfl (q_kN 2 rfl (by decide) (by decide) (q_kN 3 rfl (by decide) (by decide) (q_kN 4 rfl (by decide) (by decide) (q_kN 5 rfl (by decide) (by decide) q_kz)))))) (fun ls hl => ?_)
          refine lv_goto (tgt := 39) C.1 C.2.1 dX6_free_99 (by decide) ?_
          rw [hnx] at hl
          exact ih _ (D ++ [v]) R2 H locs ls (by simp at hk; omega) hV hl (by rw [← hDR]; simp) hla9
        · refine q_aload_n (r := some m9) C dX6_free_61 rfl (lv_at hl 3 rfl) ?_
          refine g_Model_times C hV hL_m9 hK_m9 (Or.inl wd_488) dX6_free_62 ?_
          refine q_tr (v' := some ti9) (hR11) ?_
          refine lv_iload C.1 C.2.1 dX6_free_65 (lv_at hl 0 rfl) ?_
          refine q_iald (j := 1 + v_sz D) C hV hL_ti9 hK_ti9 (rfl) (show 1 + v_sz D < S.N ti9 by rw [hNt]; exact hjb) (hN_ti9) dX6_free_67 ?_
          refine q_aload_n (r := some m9) C dX6_free_68 rfl (lv_at hl 3 rfl) ?_
          refine g_Model_times C hV hL_m9 hK_m9 (Or.inl wd_488) dX6_free_69 ?_
          refine q_tr (v' := some ti9) (hR11) ?_
          refine lv_iload_n C.1 C.2.1 dX6_free_72 rfl (lv_at hl 2 rfl) ?_
          refine q_iald (j := jD) C hV hL_ti9 hK_ti9 (rfl) (show jD < S.N ti9 by rw [hNt]; exact hjD) (hN_ti9) dX6_free_73 ?_
          refine lv_icmp_le (tgt := 84) C.1 C.2.1 dX6_free_74 (by decide) (fun c74 => ?_) (fun c74 => ?_)
          · refine lv_iload C.1 C.2.1 dX6_free_84 (lv_at hl 1 rfl) ?_
            have hla9 : la = nI (q_cn (v_fl a.toInt.toNat (S.A ti9 jD)) (D ++ [v])) := by
              rw [q_cn_one, hla]
              rw [v_fl, if_neg (fun h => by have h9 := h.2.2; rw [← hTv h.1] at h9; exact q_i_gt3 h9 c74)]
              rfl
            refine q_istore (x := la) (lv' := [(4, .int (la)), (5, .int (nI (1 + v_sz D))), (3, .int (nI jD)), (0, va_rf (some m9)), (1, .int (a)), (2, .int (k))]) C dX6_free_86 hl (by decide) (q_k0 (q_kN 0 rfl (by decide) (by decide) (q_kC 2 rfl (by decide) rfl (q_kN 3 rfl (by decide) (by decide) (q_kN 4 rfl (by decide) (by decide) (q_kN 5 rfl (by decide) (by decide) q_kz)))))) (fun ls hl => ?_)
            refine lv_iload C.1 C.2.1 dX6_free_88 (lv_at hl 1 rfl) ?_
            refine q_aload_n (r := some m9) C dX6_free_90 rfl (lv_at hl 3 rfl) ?_
            refine lv_iload C.1 C.2.1 dX6_free_91 (lv_at hl 1 rfl) ?_
            refine q_ci hV (q_rV (b := m9) (As := [.int (nI (1 + v_sz D))]) (rest := [.int (nI (1 + v_sz D))]) C hV (c_Model_length l E (S.sI 7 m9 0) m9 sz9 ti9 n9 hM7.1 (1 + v_sz D) hjb) wd_535 wd_532 wd_534 wd_34 wd_44 ok_X6_length ⟨rfl, rfl, Nat.le_of_ble_eq_true rfl, Nat.le_of_ble_eq_true rfl⟩ (q_rc5 hV hL_m9 hK_m9) rfl hl.1 rfl (q_sm (q_1c rfl q_1n) (Nat.le_of_ble_eq_true rfl)) dX6_free_93 ⟨Nat.le_of_ble_eq_true rfl, Nat.le_of_ble_eq_true rfl⟩) (fun i93 S93 H locs hp93 hV => ?_)
            obtain ⟨eS93, hp93⟩ := hp93
            rw [eS93] at hV
            replace hp93 := hp93.trans hlnv
            subst hp93
            refine lv_iadd C.1 C.2.1 dX6_free_96 ?_
            refine q_istore (x := (nI (1 + v_sz D)) + (nI v.1)) (lv' := [(5, .int ((nI (1 + v_sz D)) + (nI v.1))), (4, .int (la)), (3, .int (nI jD)), (0, va_rf (some m9)), (1, .int (a)), (2, .int (k))]) C dX6_free_97 hl (by decide) (q_k0 (q_kC 0 rfl (by decide) rfl (q_kN 2 rfl (by decide) (by decide) (q_kN 3 rfl (by decide) (by decide) (q_kN 4 rfl (by decide) (by decide) (q_kN 5 rfl (by decide) (by decide) q_kz)))))) (fun ls hl => ?_)
            refine lv_goto (tgt := 39) C.1 C.2.1 dX6_free_99 (by decide) ?_
            rw [hnx] at hl
            exact ih _ (D ++ [v]) R2 H locs ls (by simp at hk; omega) hV hl (by rw [← hDR]; simp) hla9
          · refine lv_iload C.1 C.2.1 dX6_free_77 (lv_at hl 1 rfl) ?_
            refine lv_iconst (v := 1) C.1 C.2.1 dX6_free_79 (by decide) ?_
            refine lv_iadd C.1 C.2.1 dX6_free_80 ?_
            refine lv_goto (tgt := 86) C.1 C.2.1 dX6_free_81 (by decide) ?_
            have hla9 : la + 1 = nI (q_cn (v_fl a.toInt.toNat (S.A ti9 jD)) (D ++ [v])) := by
              rw [q_cn_one, hla]
              have hc := (v_sg_eq (by omega) (by omega) (by omega)).mp (c58.trans (congrArg (fun z => 0 - z) ha))
              rw [v_fl, if_pos ⟨hc.1, hc.2, by have h9 : S.A ti9 jD < S.A ti9 (1 + v_sz D) := q_i_gt2.mp c74; rw [hTv hc.1] at h9; exact h9⟩]
              exact nI_1 _
            refine q_istore (x := la + 1) (lv' := [(4, .int (la + 1)), (5, .int (nI (1 + v_sz D))), (3, .int (nI jD)), (0, va_rf (some m9)), (1, .int (a)), (2, .int (k))]) C dX6_free_86 hl (by decide) (q_k0 (q_kN 0 rfl (by decide) (by decide) (q_kC 2 rfl (by decide) rfl (q_kN 3 rfl (by decide) (by decide) (q_kN 4 rfl (by decide) (by decide) (q_kN 5 rfl (by decide) (by decide) q_kz)))))) (fun ls hl => ?_)
            refine lv_iload C.1 C.2.1 dX6_free_88 (lv_at hl 1 rfl) ?_
            refine q_aload_n (r := some m9) C dX6_free_90 rfl (lv_at hl 3 rfl) ?_
            refine lv_iload C.1 C.2.1 dX6_free_91 (lv_at hl 1 rfl) ?_
            refine q_ci hV (q_rV (b := m9) (As := [.int (nI (1 + v_sz D))]) (rest := [.int (nI (1 + v_sz D))]) C hV (c_Model_length l E (S.sI 7 m9 0) m9 sz9 ti9 n9 hM7.1 (1 + v_sz D) hjb) wd_535 wd_532 wd_534 wd_34 wd_44 ok_X6_length ⟨rfl, rfl, Nat.le_of_ble_eq_true rfl, Nat.le_of_ble_eq_true rfl⟩ (q_rc5 hV hL_m9 hK_m9) rfl hl.1 rfl (q_sm (q_1c rfl q_1n) (Nat.le_of_ble_eq_true rfl)) dX6_free_93 ⟨Nat.le_of_ble_eq_true rfl, Nat.le_of_ble_eq_true rfl⟩) (fun i93 S93 H locs hp93 hV => ?_)
            obtain ⟨eS93, hp93⟩ := hp93
            rw [eS93] at hV
            replace hp93 := hp93.trans hlnv
            subst hp93
            refine lv_iadd C.1 C.2.1 dX6_free_96 ?_
            refine q_istore (x := (nI (1 + v_sz D)) + (nI v.1)) (lv' := [(5, .int ((nI (1 + v_sz D)) + (nI v.1))), (4, .int (la + 1)), (3, .int (nI jD)), (0, va_rf (some m9)), (1, .int (a)), (2, .int (k))]) C dX6_free_97 hl (by decide) (q_k0 (q_kC 0 rfl (by decide) rfl (q_kN 2 rfl (by decide) (by decide) (q_kN 3 rfl (by decide) (by decide) (q_kN 4 rfl (by decide) (by decide) (q_kN 5 rfl (by decide) (by decide) q_kz)))))) (fun ls hl => ?_)
            refine lv_goto (tgt := 39) C.1 C.2.1 dX6_free_99 (by decide) ?_
            rw [hnx] at hl
            exact ih _ (D ++ [v]) R2 H locs ls (by simp at hk; omega) hV hl (by rw [← hDR]; simp) hla9
  have outer : 3 ≤ a.toInt → 0 ≤ k.toInt → ∀ (kz : Nat) (D R : v_V) (H : Heap) (locs : List Loc) (ls : Array Slot), R.length < kz → q_V E s (S.sI 7 m9 0) H locs → lv_has ls 6 [(3, .int (nI (1 + v_sz D))), (0, va_rf (some m9)), (1, .int (a)), (2, .int (k))] → D ++ R = V → (∀ x ∈ D, x.2.1 = true → x.1 = a.toInt.toNat → q_cn (v_later a.toInt.toNat x.2.2) V ≠ k.toInt.toNat) → W p l e ({ frames := 1, cells := 0, slots := 0, locals := 24 } : Room) s m [.ref m9, .int a, .int k].toArray below meth c H locs (0) (0) (MQ below (va_Qi (post) (q_B E) E.A) [.ref m9, .int a, .int k].toArray s (0) (0) E.A) (F0 m 25 ls []) := by
    intro hz3 hk0 kz
    obtain ⟨ha, ha2⟩ := q_nat (x := a) (by omega)
    obtain ⟨hk1, hk2⟩ := q_nat hk0
    induction kz with
    | zero => intro D R H locs ls hk; exact absurd hk (Nat.not_lt_zero _)
    | succ kz ih =>
      intro D R H locs ls hk hV hl hDR hno
      refine lv_iload_n C.1 C.2.1 dX6_free_25 rfl (lv_at hl 0 rfl) ?_
      refine q_aload_n (r := some m9) C dX6_free_26 rfl (lv_at hl 1 rfl) ?_
      refine g_Model_cells C hV hL_m9 hK_m9 (Or.inl wd_486) dX6_free_27 ?_
      refine q_ti (v' := nI n9) (hI8) ?_
      refine lv_icmp_gt (tgt := 133) C.1 C.2.1 dX6_free_30 (by decide) (fun c30 => ?_) (fun c30 => ?_)
      · refine lv_iconst (v := 0) C.1 C.2.1 dX6_free_133 (by decide) ?_
        refine q_iret (v := 0) C hV hr hlk (Nat.le_of_ble_eq_true rfl) (Nat.le_of_ble_eq_true rfl) dX6_free_134 ?_
        obtain rfl := v_done hok hDR c30
        rw [List.append_nil] at hDR
        subst hDR
        refine hpost _ _ (Or.inl ⟨hk0, rfl, Or.inr ⟨hz3, Or.inl ⟨rfl, fun A x B hV9 h1 h2 => ?_⟩⟩⟩)
        exact hno x (by rw [hV9]; simp) h1 h2
      · obtain ⟨v, R2, rfl⟩ := v_more hok hDR c30
        have hMv : q_M S m9 sz9 ti9 n9 f9 tm (D ++ v :: R2) := by rw [hDR]; exact hM
        obtain ⟨hAv, -, hTv, hv1, hsz, hn9⟩ := q_M_at hMv
        have hjb : 1 + v_sz D < 16385 := by omega
        have hlnv : v_ln (S.A sz9 (1 + v_sz D)) = nI v.1 := by rw [hAv]; exact v_ln_sg hv1 (by omega)
        have hnx : nI (1 + v_sz D) + nI v.1 = nI (1 + v_sz (D ++ [v])) := by rw [nI_add, v_sz_app]; exact congrArg nI (by simp only [v_sz]; omega)
        refine lv_iconst (v := 0) C.1 C.2.1 dX6_free_33 (by decide) ?_
        refine q_istore (x := 0) (lv' := [(4, .int (0)), (3, .int (nI (1 + v_sz D))), (0, va_rf (some m9)), (1, .int (a)), (2, .int (k))]) C dX6_free_34 hl (by decide) (q_k0 (q_kC 0 rfl (by decide) rfl (q_kN 1 rfl (by decide) (by decide) (q_kN 2 rfl (by decide) (by decide) (q_kN 3 rfl (by decide) (by decide) q_kz))))) (fun ls hl => ?_)
        refine lv_iconst (v := 1) C.1 C.2.1 dX6_free_36 (by decide) ?_
        refine q_istore (x := 1) (lv' := [(5, .int (1)), (4, .int (0)), (3, .int (nI (1 + v_sz D))), (0, va_rf (some m9)), (1, .int (a)), (2, .int (k))]) C dX6_free_37 hl (by decide) (q_k0 (q_kC 0 rfl (by decide) rfl (q_kN 1 rfl (by decide) (by decide) (q_kN 2 rfl (by decide) (by decide) (q_kN 3 rfl (by decide) (by decide) (q_kN 4 rfl (by decide) (by decide) q_kz)))))) (fun ls hl => ?_)
        refine inner hz3 (1 + v_sz D) hjb ?_ (V.length + 1) 0 [] V H locs ls (Nat.lt_succ_self _) hV hl (List.nil_append _) nI_0.symm
        intro H locs ls hV hl
        refine q_aload_n (r := some m9) C dX6_free_102 rfl (lv_at hl 2 rfl) ?_
        refine g_Model_sizes C hV hL_m9 hK_m9 (Or.inl wd_487) dX6_free_103 ?_
        refine q_tr (v' := some sz9) (hR10) ?_
        refine lv_iload_n C.1 C.2.1 dX6_free_106 rfl (lv_at hl 1 rfl) ?_
        refine q_iald (j := 1 + v_sz D) C hV hL_sz9 hK_sz9 (rfl) (show 1 + v_sz D < S.N sz9 by rw [hNs]; exact hjb) (hN_sz9) dX6_free_107 ?_
        refine q_ti (v' := v_sg v) (hAv) ?_
        refine lv_iconst (v := 0) C.1 C.2.1 dX6_free_108 (by decide) ?_
        refine lv_iload_n C.1 C.2.1 dX6_free_109 rfl (lv_at hl 3 rfl) ?_
        refine lv_isub C.1 C.2.1 dX6_free_110 ?_
        refine lv_icmp_ne (tgt := 122) C.1 C.2.1 dX6_free_111 (by decide) (fun c111 => ?_) (fun c111 => ?_)
        · refine lv_iload_n C.1 C.2.1 dX6_free_122 rfl (lv_at hl 1 rfl) ?_
          refine q_aload_n (r := some m9) C dX6_free_123 rfl (lv_at hl 2 rfl) ?_
          refine lv_iload_n C.1 C.2.1 dX6_free_124 rfl (lv_at hl 1 rfl) ?_
          refine q_ci hV (q_rV (b := m9) (As := [.int (nI (1 + v_sz D))]) (rest := [.int (nI (1 + v_sz D))]) C hV (c_Model_length l E (S.sI 7 m9 0) m9 sz9 ti9 n9 hM7.1 (1 + v_sz D) hjb) wd_535 wd_532 wd_534 wd_34 wd_44 ok_X6_length ⟨rfl, rfl, Nat.le_of_ble_eq_true rfl, Nat.le_of_ble_eq_true rfl⟩ (q_rc5 hV hL_m9 hK_m9) rfl hl.1 rfl (q_sm (q_1c rfl q_1n) (Nat.le_of_ble_eq_true rfl)) dX6_free_125 ⟨Nat.le_of_ble_eq_true rfl, Nat.le_of_ble_eq_true rfl⟩) (fun i125 S125 H locs hp125 hV => ?_)
          obtain ⟨eS125, hp125⟩ := hp125
          rw [eS125] at hV
          replace hp125 := hp125.trans hlnv
          subst hp125
          refine lv_iadd C.1 C.2.1 dX6_free_128 ?_
          refine q_istore_n (x := (nI (1 + v_sz D)) + (nI v.1)) (lv' := [(3, .int ((nI (1 + v_sz D)) + (nI v.1))), (4, .int (nI (q_cn (v_fl a.toInt.toNat (S.A ti9 (1 + v_sz D))) V))), (0, va_rf (some m9)), (1, .int (a)), (2, .int (k))]) C dX6_free_129 rfl hl (by decide) (q_k0 (q_kN 0 rfl (by decide) (by decide) (q_kN 2 rfl (by decide) (by decide) (q_kN 3 rfl (by decide) (by decide) (q_kC 4 rfl (by decide) rfl q_kz))))) (fun ls hl => ?_)
          refine lv_goto (tgt := 25) C.1 C.2.1 dX6_free_130 (by decide) ?_
          have hno9 : ∀ x ∈ D ++ [v], x.2.1 = true → x.1 = a.toInt.toNat → q_cn (v_later a.toInt.toNat x.2.2) V ≠ k.toInt.toNat := fun x hx h1 h2 => by
            rcases List.mem_append.mp hx with hx | hx
            · exact hno x hx h1 h2
            · rw [List.mem_singleton.mp hx] at h1 h2 ⊢
              exact absurd (((v_sg_eq (by omega) (by omega) (by omega)).mpr ⟨h1, h2⟩).trans (congrArg (fun z => 0 - z) ha.symm)) c111
          rw [hnx] at hl
          exact ih (D ++ [v]) R2 H locs ls (by simp at hk; omega) hV (lv_sub hl [0, 2, 3, 4] rfl) (by rw [← hDR]; simp) hno9
        · refine lv_iload C.1 C.2.1 dX6_free_114 (lv_at hl 0 rfl) ?_
          refine lv_iload_n C.1 C.2.1 dX6_free_116 rfl (lv_at hl 4 rfl) ?_
          refine lv_icmp_ne (tgt := 122) C.1 C.2.1 dX6_free_117 (by decide) (fun c117 => ?_) (fun c117 => ?_)
          · refine lv_iload_n C.1 C.2.1 dX6_free_122 rfl (lv_at hl 1 rfl) ?_
            refine q_aload_n (r := some m9) C dX6_free_123 rfl (lv_at hl 2 rfl) ?_
            refine lv_iload_n C.1 C.2.1 dX6_free_124 rfl (lv_at hl 1 rfl) ?_
            refine q_ci hV (q_rV (b := m9) (As := [.int (nI (1 + v_sz D))]) (rest := [.int (nI (1 + v_sz D))]) C hV (c_Model_length l E (S.sI 7 m9 0) m9 sz9 ti9 n9 hM7.1 (1 + v_sz D) hjb) wd_535 wd_532 wd_534 wd_34 wd_44 ok_X6_length ⟨rfl, rfl, Nat.le_of_ble_eq_true rfl, Nat.le_of_ble_eq_true rfl⟩ (q_rc5 hV hL_m9 hK_m9) rfl hl.1 rfl (q_sm (q_1c rfl q_1n) (Nat.le_of_ble_eq_true rfl)) dX6_free_125 ⟨Nat.le_of_ble_eq_true rfl, Nat.le_of_ble_eq_true rfl⟩) (fun i125 S125 H locs hp125 hV => ?_)
            obtain ⟨eS125, hp125⟩ := hp125
            rw [eS125] at hV
            replace hp125 := hp125.trans hlnv
            subst hp125
            refine lv_iadd C.1 C.2.1 dX6_free_128 ?_
            refine q_istore_n (x := (nI (1 + v_sz D)) + (nI v.1)) (lv' := [(3, .int ((nI (1 + v_sz D)) + (nI v.1))), (4, .int (nI (q_cn (v_fl a.toInt.toNat (S.A ti9 (1 + v_sz D))) V))), (0, va_rf (some m9)), (1, .int (a)), (2, .int (k))]) C dX6_free_129 rfl hl (by decide) (q_k0 (q_kN 0 rfl (by decide) (by decide) (q_kN 2 rfl (by decide) (by decide) (q_kN 3 rfl (by decide) (by decide) (q_kC 4 rfl (by decide) rfl q_kz))))) (fun ls hl => ?_)
            refine lv_goto (tgt := 25) C.1 C.2.1 dX6_free_130 (by decide) ?_
            have hno9 : ∀ x ∈ D ++ [v], x.2.1 = true → x.1 = a.toInt.toNat → q_cn (v_later a.toInt.toNat x.2.2) V ≠ k.toInt.toNat := fun x hx h1 h2 => by
              rcases List.mem_append.mp hx with hx | hx
              · exact hno x hx h1 h2
              · rw [List.mem_singleton.mp hx] at h1 h2 ⊢
                intro e9
                have hb := hok.2.2.2.2.1 v (by rw [← hDR]; simp) h1
                have hb2 := hok.2.2.2.2.2.2
                rw [hTv h1, v_fl_later hok (by omega), e9] at c117
                exact c117 hk1.symm
            rw [hnx] at hl
            exact ih (D ++ [v]) R2 H locs ls (by simp at hk; omega) hV (lv_sub hl [0, 2, 3, 4] rfl) (by rw [← hDR]; simp) hno9
          · refine lv_iload_n C.1 C.2.1 dX6_free_120 rfl (lv_at hl 1 rfl) ?_
            refine q_iret (v := nI (1 + v_sz D)) C hV hr hlk (Nat.le_of_ble_eq_true rfl) (Nat.le_of_ble_eq_true rfl) dX6_free_121 ?_
            have hc := (v_sg_eq (by omega) (by omega) (by omega)).mp (c111.trans (congrArg (fun z => 0 - z) ha))
            refine hpost _ _ (Or.inl ⟨hk0, rfl, Or.inr ⟨hz3, Or.inr ⟨D, v, R2, hDR.symm, hc.1, hc.2, ?_, rfl⟩⟩⟩)
            have hb := hok.2.2.2.2.1 v (by rw [← hDR]; simp) hc.1
            have hb2 := hok.2.2.2.2.2.2
            rw [hTv hc.1, v_fl_later hok (by omega)] at c117
            have hle := q_cn_len (v_later_1 a.toInt.toNat v.2.2) hok.2.2.2.1
            rw [hok.1] at hle
            exact (nI_eq (by omega) hk2).mp (c117.trans hk1)
  refine q_aload_n (r := some m9) C dX6_free_0 rfl (lv_at hl 0 rfl) ?_
  refine lv_iload_n C.1 C.2.1 dX6_free_1 rfl (lv_at hl 2 rfl) ?_
  refine lv_if_lt (tgt := 9) C.1 C.2.1 dX6_free_2 (by decide) (fun c2 => ?_) (fun c2 => ?_)
  · have hk0 : k.toInt < 0 := by have := q_i_lt.mp c2; rw [q_i0] at this; exact this
    refine lv_iconst (v := 0) C.1 C.2.1 dX6_free_9 (by decide) ?_
    refine q_ci hV (q_rV (b := m9) (As := [.int (0)]) (rest := []) C hV (c_Model_goes l E (S) m9 hL_m9 hK_m9 0 (by decide)) wd_516 wd_513 wd_515 wd_31 wd_44 ok_X6_goes ⟨rfl, rfl, Nat.le_of_ble_eq_true rfl, Nat.le_of_ble_eq_true rfl⟩ (q_rc5 hV hL_m9 hK_m9) rfl hl.1 rfl (q_sm q_1n (Nat.le_of_ble_eq_true rfl)) dX6_free_10 ⟨Nat.le_of_ble_eq_true rfl, Nat.le_of_ble_eq_true rfl⟩) (fun i10 S10 H locs hp10 hV => ?_)
    obtain ⟨rfl, eS10⟩ := hp10
    rw [show v_th 0 = 1 from by decide] at eS10
    subst eS10
    refine lv_if_eq (tgt := 21) C.1 C.2.1 dX6_free_13 (by decide) (fun c13 => ?_) (fun c13 => ?_)
    · refine lv_iconst (v := 0) C.1 C.2.1 dX6_free_21 (by decide) ?_
      refine q_iret (v := 0) C hV hr hlk (Nat.le_of_ble_eq_true rfl) (Nat.le_of_ble_eq_true rfl) dX6_free_22 ?_
      exact hpost _ _ (Or.inr ⟨hk0, rfl, rfl⟩)
    · exact absurd rfl c13
  · have hk0 : 0 ≤ k.toInt := by
      rcases Int.lt_or_le k.toInt 0 with h | h
      · exact absurd (q_i_lt.mpr (by rw [q_i0]; exact h)) c2
      · exact h
    refine lv_iconst (v := 1) C.1 C.2.1 dX6_free_5 (by decide) ?_
    refine lv_goto (tgt := 10) C.1 C.2.1 dX6_free_6 (by decide) ?_
    refine q_ci hV (q_rV (b := m9) (As := [.int (1)]) (rest := []) C hV (c_Model_goes l E (S) m9 hL_m9 hK_m9 1 (by decide)) wd_516 wd_513 wd_515 wd_31 wd_44 ok_X6_goes ⟨rfl, rfl, Nat.le_of_ble_eq_true rfl, Nat.le_of_ble_eq_true rfl⟩ (q_rc5 hV hL_m9 hK_m9) rfl hl.1 rfl (q_sm q_1n (Nat.le_of_ble_eq_true rfl)) dX6_free_10 ⟨Nat.le_of_ble_eq_true rfl, Nat.le_of_ble_eq_true rfl⟩) (fun i10 S10 H locs hp10 hV => ?_)
    obtain ⟨rfl, eS10⟩ := hp10
    rw [show v_th 1 = 0 from by decide] at eS10
    subst eS10
    refine lv_if_eq (tgt := 21) C.1 C.2.1 dX6_free_13 (by decide) (fun c13 => ?_) (fun c13 => ?_)
    · exact absurd c13 (by decide)
    · refine lv_iload_n C.1 C.2.1 dX6_free_16 rfl (lv_at hl 1 rfl) ?_
      refine lv_iconst (v := 3) C.1 C.2.1 dX6_free_17 (by decide) ?_
      refine lv_icmp_ge (tgt := 23) C.1 C.2.1 dX6_free_18 (by decide) (fun c18 => ?_) (fun c18 => ?_)
      · have hz3 : 3 ≤ a.toInt := by have := q_i_le.mp c18; rw [q_i3] at this; exact this
        refine lv_iconst (v := 1) C.1 C.2.1 dX6_free_23 (by decide) ?_
        refine q_istore_n (x := 1) (lv' := [(3, .int (1)), (0, va_rf (some m9)), (1, .int (a)), (2, .int (k))]) C dX6_free_24 rfl hl (by decide) (q_k0 (q_kN 0 rfl (by decide) (by decide) (q_kN 1 rfl (by decide) (by decide) (q_kC 2 rfl (by decide) rfl q_kz)))) (fun ls hl => ?_)
        exact outer hz3 hk0 (V.length + 1) [] V H locs ls (Nat.lt_succ_self _) hV hl (List.nil_append _) (fun x hx => nomatch hx)
      · have hz3 : a.toInt < 3 := by
          rcases Int.lt_or_le a.toInt 3 with h | h
          · exact h
          · exact absurd (q_i_le.mpr (by rw [q_i3]; exact h)) c18
        refine lv_iconst (v := 0) C.1 C.2.1 dX6_free_21 (by decide) ?_
        refine q_iret (v := 0) C hV hr hlk (Nat.le_of_ble_eq_true rfl) (Nat.le_of_ble_eq_true rfl) dX6_free_22 ?_
        exact hpost _ _ (Or.inl ⟨hk0, rfl, Or.inl ⟨hz3, rfl⟩⟩)
theorem c_Model_free (l : Launch) (E : qE) (S : qS) (m9 sz9 ti9 n9 f9 tm : Nat) (V : v_V) (hM : q_M S m9 sz9 ti9 n9 f9 tm V) (a k : Int32) : q_Mi l yX6_free cX6_free 6 .int { frames := 1, cells := 0, slots := 0, locals := 24 } E [.ref m9, .int a, .int k] S (fun r S1 => (0 ≤ k.toInt ∧ S1 = S.sI 7 m9 0 ∧ v_free V a.toInt k.toInt r) ∨ (k.toInt < 0 ∧ S1 = S.sI 7 m9 1 ∧ r = 0)) 0 0 := c0_Model_free l E S m9 sz9 ti9 n9 f9 tm V hM a k _ (fun _ _ h => h)

