/-! the class's reach is opened -/
def CdJ (M : MM) (V : Vw) (j : Nat) : Prop := ∃ k L, CardIs M 27 (setL (setK V k) L) ∧ L < 128 ∧ (∀ i, i < 7 → ¬ i = j → ∀ s, s < 4 → k i s = vk V i s) ∧ (∀ s, s < 4 → k j s ≤ 5) ∧ ∀ i, i < 7 → ¬ i = j → L.testBit i = (vL V).testBit i
def opI (M : MM) (V : Vw) (R : Ru) (j p : Nat) : Prop := M 24 6 = nI R.1 ∧ M 24 7 = nI (vm V) ∧ CdJ M V j ∧ (∀ q, q < p → M 33 q = nI (b2n (prd (R.2.1 q)))) ∧ (∀ q, q < p → ∀ s, s < vm V → ∀ d, d < 6 → M 31 (24 * q + 6 * s + d) = nI (rA V R j q s d)) ∧ ∀ q, q < p → prd (R.2.1 q) = true → ∀ s, s < vm V → ∀ o, o < vm V → ∀ x, x < 3 → M 32 (48 * q + 12 * s + 3 * o + x) = nI (rB V R j q s o x)
theorem CdJ.ok {V : Vw} {k : Nat → Nat → Nat} {L j : Nat} (O : VOK V) (hj : j < 7) (h1 : L < 128) (h2 : ∀ i, i < 7 → ¬ i = j → ∀ s, s < 4 → k i s = vk V i s) (h3 : ∀ s, s < 4 → k j s ≤ 5) : VOK (setL (setK V k) L) := by
  refine (O.setK (fun i hi s hs => ?_)).setL h1
  by_cases e : i = j
  · subst e; exact h3 s hs
  · rw [h2 i hi e s hs]; exact O.2.2.2.2.2.1 i hi s hs
theorem vc_eq {V : Vw} {i : Nat} (h : i < vn V) : vc V i = !(vL V).testBit i := vc_b2n h
abbrev rIds : List Nat := [24, 26, 27, 28, 29, 30, 31, 32, 33]
section OPEN
variable {M : MM} {V : Vw} {R : Ru} {j z : Nat} {Q : Option Value → MM → Prop}
theorem r_openOne {M2 : MM} {k : Nat → Nat → Nat} {L p : Nat} (O : VOK V) (hz : ZSh z) (hz24 : z + 3 < 24 ∨ 34 < z) (HZ : SchIs M2 z R) (OR : RuOK R) (hj : j < vn V) (hp : p < R.1) (hk2 : ¬ R.2.1 p = 2) (hk3 : ¬ R.2.1 p = 3) (h7 : M2 24 7 = nI (vm V))
    (C : CardIs M2 27 (setL (setK V k) L)) (h1 : L < 128) (h2 : ∀ i, i < 7 → ¬ i = j → ∀ s, s < 4 → k i s = vk V i s) (h3 : ∀ s, s < 4 → k j s ≤ 5) (h4 : ∀ i, i < 7 → ¬ i = j → L.testBit i = (vL V).testBit i) (h5 : L.testBit j = false)
    (kk : ∀ M' k' x6 x7, Kp M2 M' [26, 28, 31] → loS M2 M' 31 (24 * p) → laA M' V R j p (vm V) 0 → CardIs M' 27 (setL (setK V k') L) → (∀ i, i < 7 → ¬ i = j → ∀ s, s < 4 → k' i s = vk V i s) → (∀ s, s < 4 → k' j s ≤ 5) → WP 63 94 [some (.ref 24), some (.ref z), some (.ref 1), some (.int (nI j)), some (.int (nI p)), some (.int (nI (R.2.1 p))), x6, x7] [] M' Q) (x6 x7 : Option Value) :
    WP 63 58 [some (.ref 24), some (.ref z), some (.ref 1), some (.int (nI j)), some (.int (nI p)), some (.int (nI (R.2.1 p))), x6, x7] [] M2 Q := by
  have hm4 := O.2.2.2.1
  have hn7 := O.2.1
  have hp3 := OR.2.1
  have hk : q_cd 63 = kd_X3_open := rfl
  have eV : ∀ k' : Nat → Nat → Nat, ∀ i, i < vn V → vc (setL (setK V k') L) i = cntG (vc V) j i := fun k' i hi => by
    rw [vc_eq (show i < vn (setL (setK V k') L) from hi)]
    show (!L.testBit i) = _
    unfold cntG
    by_cases e : i = j
    · subst e; rw [h5, if_pos rfl]; rfl
    · rw [h4 i (by omega) e, if_neg e, vc_eq hi]
  have outer := q_dn (n := vm V) (P := fun s => ∀ M1 k' x7, Kp M2 M1 [26, 28, 31] → loS M2 M1 31 (24 * p) → laA M1 V R j p s 0 → CardIs M1 27 (setL (setK V k') L) → (∀ i, i < 7 → ¬ i = j → ∀ s, s < 4 → k' i s = vk V i s) → (∀ s, s < 4 → k' j s ≤ 5) → WP 63 63 [some (.ref 24), some (.ref z), some (.ref 1), some (.int (nI j)), some (.int (nI p)), some (.int (nI (R.2.1 p))), some (.int (nI s)), x7] [.int (M1 24 7), .int (nI s)] M1 Q) (by
    intro M1 k' x7 K1 A1 L1 C1 a1 a2
    have g7 : M1 24 7 = nI (vm V) := by rw [K1 24 (by decide)]; exact h7
    refine wp_icgeN (u := vm V) (v := vm V) hk rfl rfl g7 (by omega) (by omega) (fun _ => ?_) (fun h => absurd h (by omega))
    exact kk M1 k' _ _ K1 A1 L1 C1 a1 a2) (by
    intro s hs ih M1 k' x7 K1 A1 L1 C1 a1 a2
    have g7 : M1 24 7 = nI (vm V) := by rw [K1 24 (by decide)]; exact h7
    refine wp_icgeN (u := s) (v := vm V) hk rfl rfl g7 (by omega) (by omega) (fun h => absurd h (by omega)) (fun _ => ?_)
    have inner := q_dn (n := 6) (P := fun d => ∀ M3 k', Kp M2 M3 [26, 28, 31] → loS M2 M3 31 (24 * p) → laA M3 V R j p s d → CardIs M3 27 (setL (setK V k') L) → (∀ i, i < 7 → ¬ i = j → ∀ s, s < 4 → k' i s = vk V i s) → (∀ s, s < 4 → k' j s ≤ 5) → WP 63 68 [some (.ref 24), some (.ref z), some (.ref 1), some (.int (nI j)), some (.int (nI p)), some (.int (nI (R.2.1 p))), some (.int (nI s)), some (.int (nI d))] [.int (nI 6), .int (nI d)] M3 Q) (by
      intro M3 k' K3 A3 L3 C3 a3 a4
      refine wp_icgeN (u := 6) (v := 6) hk rfl rfl rfl (by omega) (by omega) (fun _ => ?_) (fun h => absurd h (by omega))
      repeat (first | refine wp_s hk rfl rfl ?_ | refine wp_goto hk rfl ?_ | refine wp_geti hk rfl rfl rfl rfl ?_ | refine wp_getr hk rfl rfl rfl rfl ?_)
      rw [q_nadd s 1]
      exact ih M3 k' _ K3 A3 L3.nx C3 a3 a4) (by
      intro d hd ihd M3 k' K3 A3 L3 C3 a3 a4
      refine wp_icgeN (u := d) (v := 6) hk rfl rfl rfl (by omega) (by omega) (fun h => absurd h (by omega)) (fun _ => ?_)
      repeat (first | refine wp_s hk rfl rfl ?_ | refine wp_goto hk rfl ?_ | refine wp_geti hk rfl rfl rfl rfl ?_ | refine wp_getr hk rfl rfl rfl rfl ?_)
      refine wp_callV hk rfl rfl rfl rfl rfl rfl ?_
      refine c_give CSh27 C3 (by omega) (by omega) (fun M4 K4 C4 => ?_)
      have C4' : CardIs M4 27 (setL (setK V (mkM k' j s d)) L) := C4
      have b1 : ∀ i, i < 7 → ¬ i = j → ∀ t, t < 4 → mkM k' j s d i t = vk V i t := fun i hi e t ht => by
        unfold mkM
        rw [if_neg (fun y => e y.1)]
        exact a3 i hi e t ht
      have b2 : ∀ t, t < 4 → mkM k' j s d j t ≤ 5 := fun t ht => by
        unfold mkM
        by_cases e : j = j ∧ t = s
        · rw [if_pos e]; omega
        · rw [if_neg e]; exact a4 t ht
      have K24 : Kp M2 M4 [26, 28, 31] := K3.tr (K4.mono (by decide))
      repeat (first | refine wp_s hk rfl rfl ?_ | refine wp_goto hk rfl ?_ | refine wp_geti hk rfl rfl rfl rfl ?_ | refine wp_getr hk rfl rfl rfl rfl ?_)
      refine wp_callS hk rfl rfl rfl rfl ?_
      refine r_aloneAt ?_
      repeat (first | refine wp_s hk rfl rfl ?_ | refine wp_goto hk rfl ?_ | refine wp_geti hk rfl rfl rfl rfl ?_ | refine wp_getr hk rfl rfl rfl rfl ?_)
      refine wp_callV hk rfl rfl rfl rfl rfl rfl ?_
      refine g_weigh CSh27 SSh25 hz (Or.inr (by omega)) C4' (CdJ.ok O (by omega) h1 b1 b2) (HZ.kp K24 (by simp; omega) (by simp; omega) (by simp; omega) (by simp; omega)) OR hp hs (fun M5 K5 => ?_)
      have ew : worthW (vn (setL (setK V (mkM k' j s d)) L)) (vm (setL (setK V (mkM k' j s d)) L)) (vc (setL (setK V (mkM k' j s d)) L)) (vk (setL (setK V (mkM k' j s d)) L)) R p s = rA V R j p s d := by
        unfold rA
        rw [if_neg hk2, if_neg hk3]
        refine worth_col hk2 hk3 (fun i hi => eV _ i hi) (fun i hi _ => ?_)
        show mkM k' j s d i s = mkM (vk V) j s d i s
        unfold mkM
        by_cases e : i = j ∧ s = s
        · rw [if_pos e, if_pos e]
        · rw [if_neg e, if_neg e]
          have hi' : i < vn V := hi
          exact a3 i (by omega) (fun y => e ⟨y, rfl⟩) s (by omega)
      rw [ew]
      refine wp_ast (jx := 24 * p + 6 * s + d) hk rfl rfl rfl (by omega) ?_
      repeat (first | refine wp_s hk rfl rfl ?_ | refine wp_goto hk rfl ?_ | refine wp_geti hk rfl rfl rfl rfl ?_ | refine wp_getr hk rfl rfl rfl rfl ?_)
      rw [q_nadd d 1]
      have K25 : Kp M3 M5 [26, 28] := (K4.mono (by decide)).tr (K5.mono (by decide))
      have e31 : M5 31 = M3 31 := K25 31 (by decide)
      refine ihd _ (mkM k' j s d) ((K3.tr (K25.mono (by decide))).up (by decide)) (loS.up (fun x hx => by rw [e31]; exact A3 x hx) (by omega)) (laA.up (fun s' d' hd' hsd => by rw [e31]; exact L3 s' d' hd' hsd) hd rfl) ?_ b1 b2
      exact (C4'.kp K5 (by decide) (by decide) (by decide) (by decide)).kp (ids := [31]) ((Kp.rf _ _).up (by decide)) (by decide) (by decide) (by decide) (by decide))
    repeat (first | refine wp_s hk rfl rfl ?_ | refine wp_goto hk rfl ?_ | refine wp_geti hk rfl rfl rfl rfl ?_ | refine wp_getr hk rfl rfl rfl rfl ?_)
    exact inner 0 (Nat.zero_le _) M1 k' K1 A1 L1 C1 a1 a2)
  repeat (first | refine wp_s hk rfl rfl ?_ | refine wp_goto hk rfl ?_ | refine wp_geti hk rfl rfl rfl rfl ?_ | refine wp_getr hk rfl rfl rfl rfl ?_)
  exact outer 0 (Nat.zero_le _) M2 k _ (Kp.rf _ _) (loS.rf _ _ _) (fun s d hd hsd => absurd hsd (by omega)) C h2 h3
theorem r_open (C : CardIs M 1 V) (O : VOK V) (hz : ZSh z) (hz24 : z + 3 < 24 ∨ 34 < z) (HZ : SchIs M z R) (OR : RuOK R) (hj : j < vn V) (kk : ∀ M', Kp M M' rIds → RchIs M' V R j → Q none M') : Ca 63 [.ref 24, .ref z, .ref 1, .int (nI j)] M Q := by
  have hz' := hz
  have hm4 := O.2.2.2.1
  have hn7 := O.2.1
  have hL := O.2.2.2.2.1
  have hp3 := OR.2.1
  obtain ⟨zS, zA, zB, zC⟩ := hz
  have hk : q_cd 63 = kd_X3_open := rfl
  show WP 63 0 [some (.ref 24), some (.ref z), some (.ref 1), some (.int (nI j)), none, none, none, none] [] M Q
  have loop := q_dn (n := R.1) (P := fun p => ∀ M1 x5 x6 x7, Kp M M1 rIds → opI M1 V R j p → WP 63 17 [some (.ref 24), some (.ref z), some (.ref 1), some (.int (nI j)), some (.int (nI p)), x5, x6, x7] [.int (M1 24 6), .int (nI p)] M1 Q) (by
    intro M1 x5 x6 x7 K1 I1
    obtain ⟨i1, i2, ⟨k, L, i3, -⟩, i4, i5, i6⟩ := I1
    refine wp_icgeN (u := R.1) (v := R.1) hk rfl rfl i1 (by omega) (by omega) (fun _ => ?_) (fun h => absurd h (by omega))
    exact wp_vr hk rfl (kk M1 K1 ⟨i1, i2, i3.2.1, i4, i5, i6⟩)) (by
    intro p hp ih M1 x5 x6 x7 K1 I1
    obtain ⟨i1, i2, ⟨k, L, i3, j1, j2, j3, j4⟩, i4, i5, i6⟩ := I1
    have hk4 := OR.2.2.1 p hp
    have Z1 : SchIs M1 z R := HZ.kp K1 (by simp; omega) (by simp; omega) (by simp; omega) (by simp; omega)
    refine wp_icgeN (u := p) (v := R.1) hk rfl rfl i1 (by omega) (by omega) (fun h => absurd h (by omega)) (fun _ => ?_)
    repeat (first | refine wp_s hk rfl rfl ?_ | refine wp_goto hk rfl ?_ | refine wp_geti hk rfl rfl rfl rfl ?_ | refine wp_getr hk rfl rfl rfl rfl ?_)
    refine wp_callV hk rfl rfl rfl rfl zS rfl ?_
    refine z_kindOf hz' Z1 OR hp ?_
    have cont : prd (R.2.1 p) = prd (R.2.1 p) → WP 63 34 [some (.ref 24), some (.ref z), some (.ref 1), some (.int (nI j)), some (.int (nI p)), some (.int (nI (R.2.1 p))), x6, x7] [.int (nI (b2n (prd (R.2.1 p)))), .int (nI p), .ref 33] M1 Q := by
      intro _
      refine wp_bst (jx := p) hk rfl rfl rfl (by omega) (by cases prd (R.2.1 p); exact Or.inl rfl; exact Or.inr rfl) ?_
      have e33 : (q_up M1 33 (upd (M1 33) p (nI (b2n (prd (R.2.1 p)))))) 33 p = nI (b2n (prd (R.2.1 p))) := by rw [q_up_at, upd_at]
      have f33 : ∀ q, q < p → (q_up M1 33 (upd (M1 33) p (nI (b2n (prd (R.2.1 p)))))) 33 q = nI (b2n (prd (R.2.1 q))) := fun q hq => by rw [q_up_at, upd_ne _ _ (by omega)]; exact i4 q hq
      have K12 : Kp M1 (q_up M1 33 (upd (M1 33) p (nI (b2n (prd (R.2.1 p)))))) [33] := (Kp.rf _ _).up (by decide)
      generalize (q_up M1 33 (upd (M1 33) p (nI (b2n (prd (R.2.1 p)))))) = M2 at e33 f33 K12 ⊢
      have C2 : CardIs M2 27 (setL (setK V k) L) := i3.kp K12 (by decide) (by decide) (by decide) (by decide)
      repeat (first | refine wp_s hk rfl rfl ?_ | refine wp_goto hk rfl ?_ | refine wp_geti hk rfl rfl rfl rfl ?_ | refine wp_getr hk rfl rfl rfl rfl ?_)
      refine wp_bld (jx := p) hk rfl rfl rfl (by omega) ?_
      rw [e33]
      refine wp_callV hk rfl rfl rfl rfl rfl rfl ?_
      refine c_setLost CSh27 C2 j1 (by omega) (fun M3 K3 C3 => ?_)
      have C3' : CardIs M3 27 (setL (setK V k) (stB L j (prd (R.2.1 p)))) := C3
      obtain ⟨t1, t2⟩ := stB_bit L j1 j (by omega) (prd (R.2.1 p))
      have t3 : (stB L j (prd (R.2.1 p))).testBit j = prd (R.2.1 p) := by rw [t2 j (by omega), if_pos rfl]
      have t4 : ∀ i, i < 7 → ¬ i = j → (stB L j (prd (R.2.1 p))).testBit i = (vL V).testBit i := fun i hi e => by rw [t2 i hi, if_neg e]; exact j4 i hi e
      generalize (stB L j (prd (R.2.1 p))) = L' at C3' t1 t3 t4
      have K13 : Kp M1 M3 [27, 33] := (K12.mono (by decide)).tr (K3.mono (by decide))
      have K03 : Kp M M3 rIds := K1.tr (K13.mono (by decide))
      have g33 : M3 33 p = nI (b2n (prd (R.2.1 p))) := by rw [K3 33 (by decide)]; exact e33
      have h33 : ∀ q, q < p → M3 33 q = nI (b2n (prd (R.2.1 q))) := fun q hq => by rw [K3 33 (by decide)]; exact f33 q hq
      have g6 : M3 24 6 = nI R.1 := by rw [K13 24 (by decide)]; exact i1
      have g7 : M3 24 7 = nI (vm V) := by rw [K13 24 (by decide)]; exact i2
      have g31 : M3 31 = M1 31 := K13 31 (by decide)
      have g32 : M3 32 = M1 32 := K13 32 (by decide)
      have Z3 : SchIs M3 z R := HZ.kp K03 (by simp; omega) (by simp; omega) (by simp; omega) (by simp; omega)
      have q33 : ∀ q, q < p + 1 → M3 33 q = nI (b2n (prd (R.2.1 q))) := fun q hq => by
        by_cases e : q = p
        · subst e; exact g33
        · exact h33 q (by omega)
      repeat (first | refine wp_s hk rfl rfl ?_ | refine wp_goto hk rfl ?_ | refine wp_geti hk rfl rfl rfl rfl ?_ | refine wp_getr hk rfl rfl rfl rfl ?_)
      refine wp_bld (jx := p) hk rfl rfl rfl (by omega) ?_
      rw [g33]
      refine wp_ifeqB hk rfl rfl (fun y => ?_) (fun y => ?_)
      · have hk2 : ¬ R.2.1 p = 2 := fun e => by rw [e] at y; cases y
        have hk3 : ¬ R.2.1 p = 3 := fun e => by rw [e] at y; cases y
        rw [y] at t3
        refine r_openOne O hz' hz24 Z3 OR hj hp hk2 hk3 g7 C3' t1 j2 j3 t4 t3 (fun M4 k' y6 y7 K4 A4 L4 C4 a1 a2 => ?_) _ _
        repeat (first | refine wp_s hk rfl rfl ?_ | refine wp_goto hk rfl ?_ | refine wp_geti hk rfl rfl rfl rfl ?_ | refine wp_getr hk rfl rfl rfl rfl ?_)
        rw [q_nadd p 1]
        refine ih M4 _ _ _ (K03.tr (K4.mono (by decide))) ⟨by rw [K4 24 (by decide)]; exact g6, by rw [K4 24 (by decide)]; exact g7, ⟨k', L', C4, t1, a1, a2, t4⟩, fun q hq => by rw [K4 33 (by decide)]; exact q33 q hq, fun q hq s hs d hd => ?_, fun q hq hpr s hs o ho x hx => ?_⟩
        · by_cases e : q = p
          · subst e; exact L4 s d hd (Or.inl hs)
          · rw [A4 _ (by omega), g31]; exact i5 q (by omega) s hs d hd
        · have e : ¬ q = p := fun e => by rw [e, y] at hpr; cases hpr
          rw [K4 32 (by decide), g32]; exact i6 q (by omega) hpr s hs o ho x hx
      · have hkd : R.2.1 p = 2 ∨ R.2.1 p = 3 := by
          unfold prd at y
          rw [Bool.or_eq_true] at y
          exact y.imp of_decide_eq_true of_decide_eq_true
        rw [y] at t3
        have lay : WP 63 56 [some (.ref 24), some (.ref z), some (.ref 1), some (.int (nI j)), some (.int (nI p)), some (.int (nI (R.2.1 p))), x6, x7] [.int (nI (b2n (decide (R.2.1 p = 2)))), .int (nI p), .ref 24] M3 Q := by
          refine wp_callV hk rfl rfl rfl rfl rfl rfl ?_
          refine r_layBeside (V := V) (R := R) (j := j) C3' (CdJ.ok O (by omega) t1 j2 j3) rfl rfl (fun i hi => ?_) (fun i hi e s hs => j2 i (by omega) e s hs) g7 (by omega) hkd (fun M4 K4 A4 B4 L4 L5 => ?_)
          · rw [vc_eq (show i < vn (setL (setK V k) L') from hi)]
            show (!L'.testBit i) = _
            unfold cntM
            by_cases e : i = j
            · subst e; rw [t3, if_pos rfl]; rfl
            · rw [t4 i (by omega) e, if_neg e, vc_eq hi]
          · repeat (first | refine wp_s hk rfl rfl ?_ | refine wp_goto hk rfl ?_ | refine wp_geti hk rfl rfl rfl rfl ?_ | refine wp_getr hk rfl rfl rfl rfl ?_)
            rw [q_nadd p 1]
            refine ih M4 _ _ _ (K03.tr (K4.mono (by decide))) ⟨by rw [K4 24 (by decide)]; exact g6, by rw [K4 24 (by decide)]; exact g7, ⟨k, L', C3'.kp K4 (by decide) (by decide) (by decide) (by decide), t1, j2, j3, t4⟩, fun q hq => by rw [K4 33 (by decide)]; exact q33 q hq, fun q hq s hs d hd => ?_, fun q hq hpr s hs o ho x hx => ?_⟩
            · by_cases e : q = p
              · subst e; exact L4 s d hd (Or.inl hs)
              · rw [A4 _ (by omega), g31]; exact i5 q (by omega) s hs d hd
            · by_cases e : q = p
              · subst e; exact L5 s o x ho hx (Or.inl hs)
              · rw [B4 _ (by omega), g32]; exact i6 q (by omega) hpr s hs o ho x hx
        repeat (first | refine wp_s hk rfl rfl ?_ | refine wp_goto hk rfl ?_ | refine wp_geti hk rfl rfl rfl rfl ?_ | refine wp_getr hk rfl rfl rfl rfl ?_)
        refine wp_icneN (u := R.2.1 p) (v := 2) hk rfl rfl rfl (by omega) (by omega) (fun e => ?_) (fun e => ?_)
        · rw [decide_eq_false e] at lay
          refine wp_s hk rfl rfl ?_
          exact lay
        · rw [decide_eq_true (Classical.not_not.mp e)] at lay
          refine wp_s hk rfl rfl ?_
          refine wp_goto hk rfl ?_
          exact lay
    repeat (first | refine wp_s hk rfl rfl ?_ | refine wp_goto hk rfl ?_ | refine wp_geti hk rfl rfl rfl rfl ?_ | refine wp_getr hk rfl rfl rfl rfl ?_)
    refine wp_iceqN (u := R.2.1 p) (v := 2) hk rfl rfl rfl (by omega) (by omega) (fun e => ?_) (fun e => ?_)
    · rw [show prd (R.2.1 p) = true by rw [e]; rfl] at cont
      refine wp_s hk rfl rfl ?_
      refine wp_goto hk rfl ?_
      exact cont rfl
    · repeat (first | refine wp_s hk rfl rfl ?_ | refine wp_goto hk rfl ?_ | refine wp_geti hk rfl rfl rfl rfl ?_ | refine wp_getr hk rfl rfl rfl rfl ?_)
      refine wp_icneN (u := R.2.1 p) (v := 3) hk rfl rfl rfl (by omega) (by omega) (fun e3 => ?_) (fun e3 => ?_)
      · rw [show prd (R.2.1 p) = false by unfold prd; rw [decide_eq_false e, decide_eq_false e3]; rfl] at cont
        refine wp_s hk rfl rfl ?_
        exact cont rfl
      · rw [show prd (R.2.1 p) = true by rw [Classical.not_not.mp e3]; rfl] at cont
        refine wp_s hk rfl rfl ?_
        refine wp_goto hk rfl ?_
        exact cont rfl)
  repeat (first | refine wp_s hk rfl rfl ?_ | refine wp_goto hk rfl ?_ | refine wp_geti hk rfl rfl rfl rfl ?_ | refine wp_getr hk rfl rfl rfl rfl ?_)
  refine wp_callV hk rfl rfl rfl rfl rfl rfl ?_
  refine c_copyFrom CSh27 CSh1 (Or.inr (by omega)) C (fun M0 K0 C0 => ?_)
  have Z0 : SchIs M0 z R := HZ.kp K0 (by simp; omega) (by simp; omega) (by simp; omega) (by simp; omega)
  have D0 : CardIs M0 1 V := C.kp K0 (by decide) (by decide) (by decide) (by decide)
  repeat (first | refine wp_s hk rfl rfl ?_ | refine wp_goto hk rfl ?_ | refine wp_geti hk rfl rfl rfl rfl ?_ | refine wp_getr hk rfl rfl rfl rfl ?_)
  refine wp_callV hk rfl rfl rfl rfl zS rfl ?_
  refine z_parts hz' Z0 ?_
  refine wp_put hk rfl rfl rfl rfl rfl ?_
  repeat (first | refine wp_s hk rfl rfl ?_ | refine wp_goto hk rfl ?_ | refine wp_geti hk rfl rfl rfl rfl ?_ | refine wp_getr hk rfl rfl rfl rfl ?_)
  refine wp_callV hk rfl rfl rfl rfl rfl rfl ?_
  refine c_skaters CSh1 (D0.kp (ids := [24]) ((Kp.rf _ _).up (by decide)) (by decide) (by decide) (by decide) (by decide)) ?_
  refine wp_put hk rfl rfl rfl rfl rfl ?_
  have e6 : (q_up (q_up M0 24 (upd (M0 24) 6 (nI R.1))) 24 (upd ((q_up M0 24 (upd (M0 24) 6 (nI R.1))) 24) 7 (nI (vm V)))) 24 6 = nI R.1 := by rw [qput, if_neg (by decide), qput, if_pos rfl]
  have e7 : (q_up (q_up M0 24 (upd (M0 24) 6 (nI R.1))) 24 (upd ((q_up M0 24 (upd (M0 24) 6 (nI R.1))) 24) 7 (nI (vm V)))) 24 7 = nI (vm V) := by rw [qput, if_pos rfl]
  have K02 : Kp M0 (q_up (q_up M0 24 (upd (M0 24) 6 (nI R.1))) 24 (upd ((q_up M0 24 (upd (M0 24) 6 (nI R.1))) 24) 7 (nI (vm V)))) [24] := ((Kp.rf _ _).up (by decide)).up (by decide)
  generalize (q_up (q_up M0 24 (upd (M0 24) 6 (nI R.1))) 24 (upd ((q_up M0 24 (upd (M0 24) 6 (nI R.1))) 24) 7 (nI (vm V)))) = M2 at e6 e7 K02 ⊢
  have C2 : CardIs M2 27 V := C0.kp K02 (by decide) (by decide) (by decide) (by decide)
  repeat (first | refine wp_s hk rfl rfl ?_ | refine wp_goto hk rfl ?_ | refine wp_geti hk rfl rfl rfl rfl ?_ | refine wp_getr hk rfl rfl rfl rfl ?_)
  exact loop 0 (Nat.zero_le _) M2 _ _ _ ((K0.mono (by decide)).tr (K02.mono (by decide))) ⟨e6, e7, ⟨vk V, vL V, C2, hL, fun _ _ _ _ _ => rfl, fun s hs => O.2.2.2.2.2.1 j (by omega) s hs, fun _ _ _ => rfl⟩, fun q hq => absurd hq (Nat.not_lt_zero _), fun q hq => absurd hq (Nat.not_lt_zero _), fun q hq => absurd hq (Nat.not_lt_zero _)⟩
end OPEN
