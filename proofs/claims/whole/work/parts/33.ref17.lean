def spFault (S : St) : Int32 := fwV (rdW (sT S) (vn (sV S)) 3 0).1
theorem m_fault {M : MM} {S : St} {Q : Option Value → MM → Prop} (I : RefInv M S) (O : StOK S) (kk : ∀ M', RFr M M' → Q (some (.int (spFault S))) M') : Ca 150 [.ref 83] M Q := by
  have hk : q_cd 150 = kd_X9_fault := rfl
  show WP 150 0 [some (.ref 83)] [] M Q
  repeat (first | refine wp_s hk rfl rfl ?_ | refine wp_goto hk rfl ?_ | refine wp_geti hk rfl rfl rfl rfl ?_ | refine wp_getr hk rfl rfl rfl rfl ?_)
  refine wp_th hk rfl (fun M0 F0 => ?_)
  have I0 := I.fr O F0
  repeat (first | refine wp_s hk rfl rfl ?_ | refine wp_goto hk rfl ?_ | refine wp_geti hk rfl rfl rfl rfl ?_ | refine wp_getr hk rfl rfl rfl rfl ?_)
  refine wp_callV hk rfl rfl rfl rfl rfl rfl ?_
  refine m_read I0 O (fun M1 F1 _ => ?_)
  exact wp_ir hk rfl rfl (kk M1 (F0.tr F1))
/-- a part that was read is a good one -/
theorem paW_ok {T : Nat × (Nat → Nat)} {n i : Nat} (h : (paW T n i).2 = true) : i < T.1 ∧ ∃ k, kdW (T.2 i) = some k ∧ (k = 0 → fgOk T (i + 1) 3 = true) ∧ (k = 4 → fgN T (i + 1) n = n) := by
  unfold paW at h
  by_cases h1 : i < T.1
  · refine ⟨h1, ?_⟩
    rw [if_pos h1] at h
    cases hk : kdW (T.2 i) with
    | none => rw [hk] at h; cases h
    | some k =>
      rw [hk] at h
      change (if k = 0 then (if fgOk T (i + 1) 3 = true then (i + 2, true) else (i + 1, false)) else if k = 4 then (i + 1 + fgN T (i + 1) n, decide (fgN T (i + 1) n = n)) else (i + 1, true)).2 = true at h
      refine ⟨k, rfl, fun z => ?_, fun z => ?_⟩
      · rw [if_pos z] at h
        by_cases h2 : fgOk T (i + 1) 3 = true
        · exact h2
        · rw [if_neg h2] at h; cases h
      · rw [if_neg (by omega), if_pos z] at h
        exact of_decide_eq_true h
  · rw [if_neg h1] at h; cases h
theorem fgN_ok {T : Nat × (Nat → Nat)} {i : Nat} : ∀ {n : Nat}, fgN T i n = n → ∀ j, j < n → fgOk T (i + j) 9 = true
  | 0, _, j, hj => absurd hj (Nat.not_lt_zero _)
  | n + 1, h, j, hj => by
    simp only [fgN] at h
    by_cases hc : fgN T i n = n ∧ fgOk T (i + n) 9 = true
    · by_cases e : j = n
      · subst e; exact hc.2
      · exact fgN_ok hc.1 j (by omega)
    · rw [if_neg hc] at h
      have := fgN_le (T := T) (i := i) (n := n)
      omega
theorem rdW_ok {T : Nat × (Nat → Nat)} {n : Nat} : ∀ {q p : Nat}, q ≠ 0 → (rdW T n q p).1 = none → p < (rdW T n q p).2 ∧ (rdW T n q p).2 ≤ p + q ∧ ∀ x, p ≤ x → x < (rdW T n q p).2 → (paW T n (stP T n x)).2 = true
  | 0, p, h, _ => absurd rfl h
  | q + 1, p, _, h => by
    simp only [rdW] at h ⊢
    by_cases h1 : (paW T n (stP T n p)).2 = true
    · rw [if_pos h1] at h ⊢
      by_cases h2 : (paW T n (stP T n p)).1 < T.1
      · rw [if_pos h2] at h ⊢
        by_cases h3 : T.2 (paW T n (stP T n p)).1 = 47 ∧ ¬ q = 0
        · rw [if_pos h3] at h ⊢
          obtain ⟨r1, r2, r3⟩ := rdW_ok h3.2 h
          refine ⟨by omega, by omega, fun x hx1 hx2 => ?_⟩
          by_cases e : x = p
          · subst e; exact h1
          · exact r3 x (by omega) hx2
        · rw [if_neg h3] at h; cases h
      · rw [if_neg h2]
        refine ⟨Nat.lt_succ_self _, by show p + 1 ≤ _; omega, fun x hx1 hx2 => ?_⟩
        have : x < p + 1 := hx2
        rw [show x = p by omega]
        exact h1
    · rw [if_neg h1] at h; cases h
theorem ruT_ok {T : Nat × (Nat → Nat)} {n : Nat} (h : (rdW T n 3 0).1 = none) : RuOK (ruT T n) := by
  obtain ⟨r1, r2, r3⟩ := rdW_ok (by decide) h
  refine ⟨r1, r2, fun i hi => ?_, fun i hi hz => ?_, fun i hi hz j hj => ?_⟩
  · obtain ⟨-, k, hk, -, -⟩ := paW_ok (r3 i (Nat.zero_le _) hi)
    show kdP T n i ≤ 4
    unfold kdP
    rw [hk]
    exact kdW_le hk
  · obtain ⟨-, k, hk, h0, -⟩ := paW_ok (r3 i (Nat.zero_le _) hi)
    have hz' : kdP T n i = 0 := hz
    unfold kdP at hz'
    rw [hk] at hz'
    have := h0 hz'
    simp only [fgOk, Bool.and_eq_true, decide_eq_true_eq] at this
    show T.2 (stP T n i + 1) - 48 ≤ 3
    omega
  · obtain ⟨-, k, hk, -, h4⟩ := paW_ok (r3 i (Nat.zero_le _) hi)
    have hz' : kdP T n i = 4 := hz
    unfold kdP at hz'
    rw [hk] at hz'
    have := fgN_ok (h4 hz')
    show fgP T n i j ≤ 9
    unfold fgP
    split
    · rename_i hjn
      have := this j hjn
      simp only [fgOk, Bool.and_eq_true, decide_eq_true_eq] at this
      omega
    · omega
/-- copied over a stretch, all else left -/
def cpx (M M' : MM) (d s lo j : Nat) : Prop := ∀ x, M' d x = if lo ≤ x ∧ x < lo + j then M s (x - lo) else M d x
theorem cpx.up {M M' : MM} {d s lo j : Nat} {v : Int32} (h : cpx M M' d s lo j) (hv : v = M s j) : cpx M (q_up M' d (upd (M' d) (lo + j) v)) d s lo (j + 1) := fun x => by
  rw [q_up_at]
  by_cases e : x = lo + j
  · rw [e, upd_at, if_pos (by omega), hv, Nat.add_sub_cancel_left]
  · rw [upd_ne _ _ e, h x]
    by_cases e2 : lo ≤ x ∧ x < lo + j
    · rw [if_pos e2, if_pos (by omega)]
    · rw [if_neg e2, if_neg (by omega)]
theorem cpx.ne {M M' : MM} {d s lo j i : Nat} {f : Nat → Int32} (h : cpx M M' d s lo j) (hi : d ≠ i) : cpx M (q_up M' i f) d s lo j := fun x => by rw [q_up_ne _ _ hi]; exact h x
def stR (S : St) (r : Nat) (R : Ru) : St := (sV S, sT S, fun x => if x = r then R else sR S x, sN S, sP S)
def opRule (S : St) (a : Int32) : Int32 × St := if isN a 3 then (if (rdW (sT S) (vn (sV S)) 3 0).1 = none then (nI (rdW (sT S) (vn (sV S)) 3 0).2, stR S (i2n a) (ruT (sT S) (vn (sV S)))) else (LATE, S)) else (UNK, S)
theorem fwV_non {o : Option Nat} (h : ∀ f, o = some f → f < 128) : fwV o = NON ↔ o = none := by
  cases o with
  | none => exact ⟨fun _ => rfl, fun _ => rfl⟩
  | some f => exact ⟨fun z => absurd z (q_non f (h f rfl)), fun z => by cases z⟩
theorem stP_le {T : Nat × (Nat → Nat)} {n : Nat} (hn : n ≤ 7) : ∀ p, stP T n p ≤ 9 * p
  | 0 => Nat.le_refl _
  | p + 1 => by
    have h1 := stP_le (T := T) hn p
    have h2 := paW_le (T := T) (n := n) (i := stP T n p) hn
    show (paW T n (stP T n p)).1 + 1 ≤ 9 * (p + 1)
    omega
theorem rdW_lt {T : Nat × (Nat → Nat)} {n : Nat} (hn : n ≤ 7) : ∀ {q p f : Nat}, (rdW T n q p).1 = some f → f ≤ 9 * (p + q) + 8
  | 0, p, f, h => by cases h
  | q + 1, p, f, h => by
    have h1 := stP_le (T := T) hn p
    have h2 := paW_le (T := T) (n := n) (i := stP T n p) hn
    simp only [rdW] at h
    by_cases c1 : (paW T n (stP T n p)).2 = true
    · rw [if_pos c1] at h
      by_cases c2 : (paW T n (stP T n p)).1 < T.1
      · rw [if_pos c2] at h
        by_cases c3 : T.2 (paW T n (stP T n p)).1 = 47 ∧ ¬ q = 0
        · rw [if_pos c3] at h
          have := rdW_lt hn h
          omega
        · rw [if_neg c3] at h; cases h; omega
      · rw [if_neg c2] at h; cases h
    · rw [if_neg c1] at h; cases h; omega
theorem m_rule {M : MM} {S : St} {a : Int32} {Q : Option Value → MM → Prop} (I : RefInv M S) (O : StOK S) (kk : ∀ M', RefInv M' (opRule S a).2 → Hi M M' → Q (some (.int (opRule S a).1)) M') : Ca 151 [.ref 83, .int a] M Q := by
  have ho7 := O.1.2.1
  have hk : q_cd 151 = kd_X9_rule := rfl
  show WP 151 0 [some (.ref 83), some (.int a), none, none] [] M Q
  repeat (first | refine wp_s hk rfl rfl ?_ | refine wp_goto hk rfl ?_ | refine wp_geti hk rfl rfl rfl rfl ?_ | refine wp_getr hk rfl rfl rfl rfl ?_)
  refine wp_th hk rfl (fun M0 F0 => ?_)
  have I0 := I.fr O F0
  have H0 := Hi.fr F0
  unfold opRule at kk
  repeat (first | refine wp_s hk rfl rfl ?_ | refine wp_goto hk rfl ?_ | refine wp_geti hk rfl rfl rfl rfl ?_ | refine wp_getr hk rfl rfl rfl rfl ?_)
  refine wp_callS hk rfl rfl rfl rfl ?_
  refine m_noRule ?_
  refine wp_ifeqB (u := !isN a 3) hk rfl rfl (fun h => ?_) (fun h => ?_)
  · have h' : isN a 3 = true := by simpa using h
    rw [if_pos h'] at kk
    obtain ⟨hr, ea⟩ := i2n_of (by omega) h'
    rw [ea]
    generalize i2n a = r at hr kk ⊢
    repeat (first | refine wp_s hk rfl rfl ?_ | refine wp_goto hk rfl ?_ | refine wp_geti hk rfl rfl rfl rfl ?_ | refine wp_getr hk rfl rfl rfl rfl ?_)
    refine wp_callV hk rfl rfl rfl rfl rfl rfl ?_
    refine m_read I0 O (fun M1 F1 D => ?_)
    have F01 := F0.tr F1
    have I1 := I.fr O F01
    have H1 := Hi.fr F01
    have hnon := fwV_non (o := (rdW (sT S) (vn (sV S)) 3 0).1) (fun f hf => by have := rdW_lt ho7 hf; omega)
    repeat (first | refine wp_s hk rfl rfl ?_ | refine wp_goto hk rfl ?_ | refine wp_geti hk rfl rfl rfl rfl ?_ | refine wp_getr hk rfl rfl rfl rfl ?_)
    refine wp_iceq hk rfl (fun g => ?_) (fun g => ?_)
    · have g' := hnon.mp g
      rw [if_pos g'] at kk
      obtain ⟨d1, d2⟩ := D g'
      obtain ⟨r1, r2, r3⟩ := rdW_ok (by decide) g'
      have RO := ruT_ok g'
      generalize hP : (rdW (sT S) (vn (sV S)) 3 0).2 = P at *
      repeat (first | refine wp_s hk rfl rfl ?_ | refine wp_goto hk rfl ?_ | refine wp_geti hk rfl rfl rfl rfl ?_ | refine wp_getr hk rfl rfl rfl rfl ?_)
      rw [d1]
      refine wp_ast (jx := r) hk rfl rfl rfl (by omega) ?_
      have e94 : ∀ x, (q_up M1 94 (upd (M1 94) r (nI P))) 94 x = if x = r then nI P else M1 94 x := fun x => by
        rw [q_up_at]
        by_cases e : x = r
        · subst e; rw [upd_at, if_pos rfl]
        · rw [upd_ne _ _ e, if_neg e]
      have K2 : Kp M1 (q_up M1 94 (upd (M1 94) r (nI P))) [94] := (Kp.rf _ _).up (by decide)
      generalize q_up M1 94 (upd (M1 94) r (nI P)) = M2 at e94 K2 ⊢
      have g11 : ∀ M3, Kp M2 M3 [95, 96, 97] → M3 83 11 = nI P := fun M3 K3 => by rw [K3 83 (by decide), K2 83 (by decide)]; exact d1
      have outer := q_dn (n := P) (P := fun p => ∀ M3 x3, Kp M2 M3 [95, 96, 97] → cpx M2 M3 95 91 (3 * r) p → cpx M2 M3 96 92 (3 * r) p → cpx M2 M3 97 93 (21 * r) (7 * p) → WP 151 25 [some (.ref 83), some (.int (nI r)), some (.int (nI p)), x3] [.int (M3 83 11), .int (nI p)] M3 Q) (by
        intro M3 x3 K3 C1 C2 C3
        refine wp_icgeN (u := P) (v := P) hk rfl rfl (g11 M3 K3) (by omega) (by omega) (fun _ => ?_) (fun z => absurd z (by omega))
        repeat (first | refine wp_s hk rfl rfl ?_ | refine wp_goto hk rfl ?_ | refine wp_geti hk rfl rfl rfl rfl ?_ | refine wp_getr hk rfl rfl rfl rfl ?_)
        rw [g11 M3 K3]
        obtain ⟨⟨c1, c2, c3, c4, c5, c6⟩, ⟨b1, b2⟩, ⟨u1, u2, u3⟩, v1, w1⟩ := I1
        refine wp_ir hk rfl rfl (kk _ ⟨⟨?_, ?_, fun j hj => ?_, fun j hj s hs => ?_, fun j hj => ?_, fun s hs => ?_⟩, ⟨?_, fun i hi => ?_⟩, ⟨fun r' hr' => ?_, ?_, ?_⟩, ?_, fun i hi => ?_⟩ (H1.tr ((Hi.kp K2).tr (Hi.kp K3))))
        · rw [K3 83 (by decide), K2 83 (by decide)]; exact c1
        · rw [K3 83 (by decide), K2 83 (by decide)]; exact c2
        · rw [K3 87 (by decide), K2 87 (by decide)]; exact c3 j hj
        · rw [K3 86 (by decide), K2 86 (by decide)]; exact c4 j hj s hs
        · rw [K3 84 (by decide), K2 84 (by decide)]; exact c5 j hj
        · rw [K3 85 (by decide), K2 85 (by decide)]; exact c6 s hs
        · rw [K3 83 (by decide), K2 83 (by decide)]; exact b1
        · rw [K3 90 (by decide), K2 90 (by decide)]; exact b2 i hi
        · show RefRu M3 r' (if r' = r then ruT (sT S) (vn (sV S)) else sR S r')
          by_cases e : r' = r
          · subst e
            rw [if_pos rfl]
            refine ⟨?_, fun i hi => ?_, fun i hi hz => ?_, fun i hi hz j hj => ?_⟩
            · rw [K3 94 (by decide), e94, if_pos rfl]; exact congrArg nI hP.symm
            · have hi' : i < P := by rw [← hP]; exact hi
              rw [C1 (3 * r' + i), if_pos (by omega), Nat.add_sub_cancel_left, K2 91 (by decide)]; exact (d2 i hi').1
            · have hi' : i < P := by rw [← hP]; exact hi
              rw [C2 (3 * r' + i), if_pos (by omega), Nat.add_sub_cancel_left, K2 92 (by decide)]; exact (d2 i hi').2.1 hz
            · have hi' : i < P := by rw [← hP]; exact hi
              rw [C3 (21 * r' + 7 * i + j), if_pos (by omega), Nat.add_assoc, Nat.add_sub_cancel_left, K2 93 (by decide)]; exact (d2 i hi').2.2 hz j hj
          · rw [if_neg e]
            have RO' := (O.2.2.1 r' hr').2.1
            obtain ⟨x1, x2, x3, x4⟩ := u1 r' hr'
            refine ⟨?_, fun i hi => ?_, fun i hi hz => ?_, fun i hi hz j hj => ?_⟩
            · rw [K3 94 (by decide), e94, if_neg e]; exact x1
            · rw [C1 (3 * r' + i), if_neg (by omega), K2 95 (by decide)]; exact x2 i hi
            · rw [C2 (3 * r' + i), if_neg (by omega), K2 96 (by decide)]; exact x3 i hi hz
            · rw [C3 (21 * r' + 7 * i + j), if_neg (by omega), K2 97 (by decide)]; exact x4 i hi hz j hj
        · rw [K3 94 (by decide), e94, if_neg (by omega)]; exact u2
        · rw [C1 9, if_neg (by omega), K2 95 (by decide)]; exact u3
        · rw [K3 83 (by decide), K2 83 (by decide)]; exact v1
        · have := w1 i hi
          unfold RefPast at this ⊢
          rw [K3 101 (by decide), K2 101 (by decide), K3 102 (by decide), K2 102 (by decide), K3 103 (by decide), K2 103 (by decide), K3 104 (by decide), K2 104 (by decide), K3 105 (by decide), K2 105 (by decide), K3 106 (by decide), K2 106 (by decide)]
          exact this) (by
        intro p hp ih M3 x3 K3 C1 C2 C3
        refine wp_icgeN (u := p) (v := P) hk rfl rfl (g11 M3 K3) (by omega) (by omega) (fun z => absurd z (by omega)) (fun _ => ?_)
        repeat (first | refine wp_s hk rfl rfl ?_ | refine wp_goto hk rfl ?_ | refine wp_geti hk rfl rfl rfl rfl ?_ | refine wp_getr hk rfl rfl rfl rfl ?_)
        refine wp_ald (jx := p) hk rfl rfl rfl (by omega) ?_
        refine wp_ast (jx := 3 * r + p) hk rfl rfl (by simp only [q_nadd, q_nmul]) (by omega) ?_
        have C1' := C1.up (v := M3 91 p) (by rw [K3 91 (by decide)])
        have C2' := C2.ne (i := 95) (f := upd (M3 95) (3 * r + p) (M3 91 p)) (by decide)
        have C3' := C3.ne (i := 95) (f := upd (M3 95) (3 * r + p) (M3 91 p)) (by decide)
        have K3' : Kp M2 (q_up M3 95 (upd (M3 95) (3 * r + p) (M3 91 p))) [95, 96, 97] := K3.up (by decide)
        generalize q_up M3 95 (upd (M3 95) (3 * r + p) (M3 91 p)) = M4 at C1' C2' C3' K3' ⊢
        repeat (first | refine wp_s hk rfl rfl ?_ | refine wp_goto hk rfl ?_ | refine wp_geti hk rfl rfl rfl rfl ?_ | refine wp_getr hk rfl rfl rfl rfl ?_)
        refine wp_ald (jx := p) hk rfl rfl rfl (by omega) ?_
        refine wp_ast (jx := 3 * r + p) hk rfl rfl (by simp only [q_nadd, q_nmul]) (by omega) ?_
        have D2 := C2'.up (v := M4 92 p) (by rw [K3' 92 (by decide)])
        have D1 := C1'.ne (i := 96) (f := upd (M4 96) (3 * r + p) (M4 92 p)) (by decide)
        have D3 := C3'.ne (i := 96) (f := upd (M4 96) (3 * r + p) (M4 92 p)) (by decide)
        have K4 : Kp M2 (q_up M4 96 (upd (M4 96) (3 * r + p) (M4 92 p))) [95, 96, 97] := K3'.up (by decide)
        generalize q_up M4 96 (upd (M4 96) (3 * r + p) (M4 92 p)) = M5 at D1 D2 D3 K4 ⊢
        have inner := q_dn (n := 7) (P := fun j => ∀ M6, Kp M2 M6 [95, 96, 97] → cpx M2 M6 95 91 (3 * r) (p + 1) → cpx M2 M6 96 92 (3 * r) (p + 1) → cpx M2 M6 97 93 (21 * r) (7 * p + j) → WP 151 54 [some (.ref 83), some (.int (nI r)), some (.int (nI p)), some (.int (nI j))] [.int (nI 7), .int (nI j)] M6 Q) (by
          intro M6 K6 E1 E2 E3
          refine wp_icgeN (u := 7) (v := 7) hk rfl rfl rfl (by omega) (by omega) (fun _ => ?_) (fun z => absurd z (by omega))
          repeat (first | refine wp_s hk rfl rfl ?_ | refine wp_goto hk rfl ?_ | refine wp_geti hk rfl rfl rfl rfl ?_ | refine wp_getr hk rfl rfl rfl rfl ?_)
          rw [q_nadd p 1]
          exact ih M6 _ K6 E1 E2 E3) (by
          intro j hj ihj M6 K6 E1 E2 E3
          refine wp_icgeN (u := j) (v := 7) hk rfl rfl rfl (by omega) (by omega) (fun z => absurd z (by omega)) (fun _ => ?_)
          repeat (first | refine wp_s hk rfl rfl ?_ | refine wp_goto hk rfl ?_ | refine wp_geti hk rfl rfl rfl rfl ?_ | refine wp_getr hk rfl rfl rfl rfl ?_)
          refine wp_ald (jx := 7 * p + j) hk rfl rfl (by simp only [q_nadd, q_nmul]) (by omega) ?_
          refine wp_ast (jx := 21 * r + (7 * p + j)) hk rfl rfl (by simp only [q_nadd, q_nmul, Nat.add_assoc]) (by omega) ?_
          repeat (first | refine wp_s hk rfl rfl ?_ | refine wp_goto hk rfl ?_ | refine wp_geti hk rfl rfl rfl rfl ?_ | refine wp_getr hk rfl rfl rfl rfl ?_)
          rw [q_nadd j 1]
          exact ihj _ (K6.up (by decide)) (E1.ne (by decide)) (E2.ne (by decide)) (E3.up (by rw [K6 93 (by decide)])))
        repeat (first | refine wp_s hk rfl rfl ?_ | refine wp_goto hk rfl ?_ | refine wp_geti hk rfl rfl rfl rfl ?_ | refine wp_getr hk rfl rfl rfl rfl ?_)
        exact inner 0 (Nat.zero_le _) M5 K4 D1 D2 D3)
      have z0 : ∀ d s lo, cpx M2 M2 d s lo 0 := fun d s lo x => by rw [if_neg (by omega)]
      repeat (first | refine wp_s hk rfl rfl ?_ | refine wp_goto hk rfl ?_ | refine wp_geti hk rfl rfl rfl rfl ?_ | refine wp_getr hk rfl rfl rfl rfl ?_)
      exact outer 0 (Nat.zero_le _) M2 _ (Kp.rf _ _) (z0 _ _ _) (z0 _ _ _) (z0 _ _ _)
    · rw [if_neg (fun z => g (hnon.mpr z))] at kk
      repeat (first | refine wp_s hk rfl rfl ?_ | refine wp_goto hk rfl ?_ | refine wp_geti hk rfl rfl rfl rfl ?_ | refine wp_getr hk rfl rfl rfl rfl ?_)
      exact wp_ir hk rfl rfl (kk M1 I1 H1)
  · have h' : isN a 3 = false := by simpa using h
    rw [if_neg (by rw [h']; exact Bool.false_ne_true)] at kk
    repeat (first | refine wp_s hk rfl rfl ?_ | refine wp_goto hk rfl ?_ | refine wp_geti hk rfl rfl rfl rfl ?_ | refine wp_getr hk rfl rfl rfl rfl ?_)
    exact wp_ir hk rfl rfl (kk M0 I0 H0)
