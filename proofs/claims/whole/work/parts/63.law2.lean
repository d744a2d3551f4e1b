/-! the law's cases -/
def LwC (L : Nat) (xs : Nat → Int32) (Q : Option Value → MM → Prop) (i : Nat) : Prop := ∀ M' S', ClsInv M' S' → RefInv M' S' → StOK S' → WPg (some (L, xs)) 107 2136 205 1016 [some (.retAddr 0), some (.ref 0), some (.ref 83), some (.int (nI i))] [] M' Q
theorem lw_n : Nat.ble 107 (q_mc 205) = true ∧ Nat.ble 2136 (q_ms 205) = true := by decide +kernel
set_option maxRecDepth 100000 in
theorem lw_c0 {L i : Nat} {xs : Nat → Int32} {M : MM} {S : St} {Q : Option Value → MM → Prop} (hL : L ≤ 2560) (hi : i + 5 ≤ L) (C : ClsInv M S) (R : RefInv M S) (O : StOK S) (kk : LwC L xs Q i) : WPg (some (L, xs)) 107 2136 205 22 [some (.retAddr 0), some (.ref 0), some (.ref 83), some (.int (nI i))] [] M Q := by
  have hk : q_cd 205 = kd_L_law := rfl
  obtain ⟨n1, n2⟩ := lw_n
  refine wp_s hk rfl rfl ?_
  refine wp_s hk rfl rfl ?_
  refine wp_s hk rfl rfl ?_
  refine wp_s hk rfl rfl ?_
  refine wp_s hk rfl rfl ?_
  refine wp_sld (jx := i + 1) hk rfl (q_nadd i 1) (by omega) (by omega) ?_
  refine wp_s hk rfl rfl ?_
  refine wp_s hk rfl rfl ?_
  refine wp_s hk rfl rfl ?_
  refine wp_s hk rfl rfl ?_
  refine wp_sld (jx := i + 2) hk rfl (q_nadd i 2) (by omega) (by omega) ?_
  refine wp_callVg hk rfl rfl rfl rfl rfl rfl n1 n2 ?_
  refine k_panel C O (fun M1 C1 L1 => ?_)
  have R1 := R.lo L1
  refine wp_s hk rfl rfl ?_
  refine wp_s hk rfl rfl ?_
  refine wp_s hk rfl rfl ?_
  refine wp_s hk rfl rfl ?_
  refine wp_s hk rfl rfl ?_
  refine wp_sld (jx := i + 1) hk rfl (q_nadd i 1) (by omega) (by omega) ?_
  refine wp_s hk rfl rfl ?_
  refine wp_s hk rfl rfl ?_
  refine wp_s hk rfl rfl ?_
  refine wp_s hk rfl rfl ?_
  refine wp_sld (jx := i + 2) hk rfl (q_nadd i 2) (by omega) (by omega) ?_
  refine wp_callVg hk rfl rfl rfl rfl rfl rfl n1 n2 ?_
  refine m_panel R1 O (fun M2 R2 H2 => ?_)
  refine wp_iceq hk rfl (fun _ => ?_) (fun h => absurd rfl h)
  exact kk M2 _ (C1.hi (ok_panel O) H2) R2 (ok_panel O)
set_option maxRecDepth 100000 in
theorem lw_c1 {L i : Nat} {xs : Nat → Int32} {M : MM} {S : St} {Q : Option Value → MM → Prop} (hL : L ≤ 2560) (hi : i + 5 ≤ L) (C : ClsInv M S) (R : RefInv M S) (O : StOK S) (kk : LwC L xs Q i) : WPg (some (L, xs)) 107 2136 205 49 [some (.retAddr 0), some (.ref 0), some (.ref 83), some (.int (nI i))] [] M Q := by
  have hk : q_cd 205 = kd_L_law := rfl
  obtain ⟨n1, n2⟩ := lw_n
  by_cases hz : xs (i + 1) = 0
  · refine wp_s hk rfl rfl ?_
    refine wp_s hk rfl rfl ?_
    refine wp_s hk rfl rfl ?_
    refine wp_s hk rfl rfl ?_
    refine wp_s hk rfl rfl ?_
    refine wp_sld (jx := i + 1) hk rfl (q_nadd i 1) (by omega) (by omega) ?_
    refine wp_ifeq hk rfl (fun _ => ?_) (fun h => absurd hz h)
    refine wp_s hk rfl rfl ?_
    refine wp_s hk rfl rfl ?_
    refine wp_s hk rfl rfl ?_
    refine wp_s hk rfl rfl ?_
    refine wp_s hk rfl rfl ?_
    refine wp_sld (jx := i + 2) hk rfl (q_nadd i 2) (by omega) (by omega) ?_
    refine wp_s hk rfl rfl ?_
    refine wp_s hk rfl rfl ?_
    refine wp_s hk rfl rfl ?_
    refine wp_s hk rfl rfl ?_
    refine wp_sld (jx := i + 3) hk rfl (q_nadd i 3) (by omega) (by omega) ?_
    refine wp_callVg hk rfl rfl rfl rfl rfl rfl n1 n2 ?_
    refine k_land (z := false) C O (fun M1 C1 L1 => ?_)
    have R1 := R.lo L1
    refine wp_s hk rfl rfl ?_
    refine wp_s hk rfl rfl ?_
    refine wp_s hk rfl rfl ?_
    refine wp_s hk rfl rfl ?_
    refine wp_s hk rfl rfl ?_
    refine wp_sld (jx := i + 1) hk rfl (q_nadd i 1) (by omega) (by omega) ?_
    refine wp_ifeq hk rfl (fun _ => ?_) (fun h => absurd hz h)
    refine wp_s hk rfl rfl ?_
    refine wp_s hk rfl rfl ?_
    refine wp_s hk rfl rfl ?_
    refine wp_s hk rfl rfl ?_
    refine wp_s hk rfl rfl ?_
    refine wp_sld (jx := i + 2) hk rfl (q_nadd i 2) (by omega) (by omega) ?_
    refine wp_s hk rfl rfl ?_
    refine wp_s hk rfl rfl ?_
    refine wp_s hk rfl rfl ?_
    refine wp_s hk rfl rfl ?_
    refine wp_sld (jx := i + 3) hk rfl (q_nadd i 3) (by omega) (by omega) ?_
    refine wp_callVg hk rfl rfl rfl rfl rfl rfl n1 n2 ?_
    refine m_land (z := false) R1 O (fun M2 R2 H2 => ?_)
    refine wp_iceq hk rfl (fun _ => ?_) (fun h => absurd rfl h)
    exact kk M2 _ (C1.hi (ok_land O) H2) R2 (ok_land O)
  · refine wp_s hk rfl rfl ?_
    refine wp_s hk rfl rfl ?_
    refine wp_s hk rfl rfl ?_
    refine wp_s hk rfl rfl ?_
    refine wp_s hk rfl rfl ?_
    refine wp_sld (jx := i + 1) hk rfl (q_nadd i 1) (by omega) (by omega) ?_
    refine wp_ifeq hk rfl (fun h => absurd h hz) (fun _ => ?_)
    refine wp_s hk rfl rfl ?_
    refine wp_goto hk rfl ?_
    refine wp_s hk rfl rfl ?_
    refine wp_s hk rfl rfl ?_
    refine wp_s hk rfl rfl ?_
    refine wp_s hk rfl rfl ?_
    refine wp_sld (jx := i + 2) hk rfl (q_nadd i 2) (by omega) (by omega) ?_
    refine wp_s hk rfl rfl ?_
    refine wp_s hk rfl rfl ?_
    refine wp_s hk rfl rfl ?_
    refine wp_s hk rfl rfl ?_
    refine wp_sld (jx := i + 3) hk rfl (q_nadd i 3) (by omega) (by omega) ?_
    refine wp_callVg hk rfl rfl rfl rfl rfl rfl n1 n2 ?_
    refine k_land (z := true) C O (fun M1 C1 L1 => ?_)
    have R1 := R.lo L1
    refine wp_s hk rfl rfl ?_
    refine wp_s hk rfl rfl ?_
    refine wp_s hk rfl rfl ?_
    refine wp_s hk rfl rfl ?_
    refine wp_s hk rfl rfl ?_
    refine wp_sld (jx := i + 1) hk rfl (q_nadd i 1) (by omega) (by omega) ?_
    refine wp_ifeq hk rfl (fun h => absurd h hz) (fun _ => ?_)
    refine wp_s hk rfl rfl ?_
    refine wp_goto hk rfl ?_
    refine wp_s hk rfl rfl ?_
    refine wp_s hk rfl rfl ?_
    refine wp_s hk rfl rfl ?_
    refine wp_s hk rfl rfl ?_
    refine wp_sld (jx := i + 2) hk rfl (q_nadd i 2) (by omega) (by omega) ?_
    refine wp_s hk rfl rfl ?_
    refine wp_s hk rfl rfl ?_
    refine wp_s hk rfl rfl ?_
    refine wp_s hk rfl rfl ?_
    refine wp_sld (jx := i + 3) hk rfl (q_nadd i 3) (by omega) (by omega) ?_
    refine wp_callVg hk rfl rfl rfl rfl rfl rfl n1 n2 ?_
    refine m_land (z := true) R1 O (fun M2 R2 H2 => ?_)
    refine wp_iceq hk rfl (fun _ => ?_) (fun h => absurd rfl h)
    exact kk M2 _ (C1.hi (ok_land O) H2) R2 (ok_land O)
set_option maxRecDepth 100000 in
theorem lw_c2 {L i : Nat} {xs : Nat → Int32} {M : MM} {S : St} {Q : Option Value → MM → Prop} (hL : L ≤ 2560) (hi : i + 5 ≤ L) (C : ClsInv M S) (R : RefInv M S) (O : StOK S) (kk : LwC L xs Q i) : WPg (some (L, xs)) 107 2136 205 94 [some (.retAddr 0), some (.ref 0), some (.ref 83), some (.int (nI i))] [] M Q := by
  have hk : q_cd 205 = kd_L_law := rfl
  obtain ⟨n1, n2⟩ := lw_n
  refine wp_s hk rfl rfl ?_
  refine wp_s hk rfl rfl ?_
  refine wp_s hk rfl rfl ?_
  refine wp_s hk rfl rfl ?_
  refine wp_s hk rfl rfl ?_
  refine wp_sld (jx := i + 1) hk rfl (q_nadd i 1) (by omega) (by omega) ?_
  refine wp_s hk rfl rfl ?_
  refine wp_s hk rfl rfl ?_
  refine wp_s hk rfl rfl ?_
  refine wp_s hk rfl rfl ?_
  refine wp_sld (jx := i + 2) hk rfl (q_nadd i 2) (by omega) (by omega) ?_
  refine wp_s hk rfl rfl ?_
  refine wp_s hk rfl rfl ?_
  refine wp_s hk rfl rfl ?_
  refine wp_s hk rfl rfl ?_
  refine wp_sld (jx := i + 3) hk rfl (q_nadd i 3) (by omega) (by omega) ?_
  refine wp_callVg hk rfl rfl rfl rfl rfl rfl n1 n2 ?_
  refine k_mark C O (fun M1 C1 L1 => ?_)
  have R1 := R.lo L1
  refine wp_s hk rfl rfl ?_
  refine wp_s hk rfl rfl ?_
  refine wp_s hk rfl rfl ?_
  refine wp_s hk rfl rfl ?_
  refine wp_s hk rfl rfl ?_
  refine wp_sld (jx := i + 1) hk rfl (q_nadd i 1) (by omega) (by omega) ?_
  refine wp_s hk rfl rfl ?_
  refine wp_s hk rfl rfl ?_
  refine wp_s hk rfl rfl ?_
  refine wp_s hk rfl rfl ?_
  refine wp_sld (jx := i + 2) hk rfl (q_nadd i 2) (by omega) (by omega) ?_
  refine wp_s hk rfl rfl ?_
  refine wp_s hk rfl rfl ?_
  refine wp_s hk rfl rfl ?_
  refine wp_s hk rfl rfl ?_
  refine wp_sld (jx := i + 3) hk rfl (q_nadd i 3) (by omega) (by omega) ?_
  refine wp_callVg hk rfl rfl rfl rfl rfl rfl n1 n2 ?_
  refine m_mark R1 O (fun M2 R2 H2 => ?_)
  refine wp_iceq hk rfl (fun _ => ?_) (fun h => absurd rfl h)
  exact kk M2 _ (C1.hi (ok_mark O) H2) R2 (ok_mark O)
set_option maxRecDepth 100000 in
theorem lw_c3 {L i : Nat} {xs : Nat → Int32} {M : MM} {S : St} {Q : Option Value → MM → Prop} (hL : L ≤ 2560) (hi : i + 5 ≤ L) (C : ClsInv M S) (R : RefInv M S) (O : StOK S) (kk : LwC L xs Q i) : WPg (some (L, xs)) 107 2136 205 131 [some (.retAddr 0), some (.ref 0), some (.ref 83), some (.int (nI i))] [] M Q := by
  have hk : q_cd 205 = kd_L_law := rfl
  obtain ⟨n1, n2⟩ := lw_n
  refine wp_s hk rfl rfl ?_
  refine wp_s hk rfl rfl ?_
  refine wp_s hk rfl rfl ?_
  refine wp_s hk rfl rfl ?_
  refine wp_s hk rfl rfl ?_
  refine wp_sld (jx := i + 1) hk rfl (q_nadd i 1) (by omega) (by omega) ?_
  refine wp_s hk rfl rfl ?_
  refine wp_s hk rfl rfl ?_
  refine wp_s hk rfl rfl ?_
  refine wp_s hk rfl rfl ?_
  refine wp_sld (jx := i + 2) hk rfl (q_nadd i 2) (by omega) (by omega) ?_
  refine wp_callVg hk rfl rfl rfl rfl rfl rfl n1 n2 ?_
  refine k_card C O (fun M1 C1 L1 => ?_)
  have R1 := R.lo L1
  refine wp_s hk rfl rfl ?_
  refine wp_s hk rfl rfl ?_
  refine wp_s hk rfl rfl ?_
  refine wp_s hk rfl rfl ?_
  refine wp_s hk rfl rfl ?_
  refine wp_sld (jx := i + 1) hk rfl (q_nadd i 1) (by omega) (by omega) ?_
  refine wp_s hk rfl rfl ?_
  refine wp_s hk rfl rfl ?_
  refine wp_s hk rfl rfl ?_
  refine wp_s hk rfl rfl ?_
  refine wp_sld (jx := i + 2) hk rfl (q_nadd i 2) (by omega) (by omega) ?_
  refine wp_callVg hk rfl rfl rfl rfl rfl rfl n1 n2 ?_
  refine m_card R1 O (fun M2 R2 H2 => ?_)
  refine wp_iceq hk rfl (fun _ => ?_) (fun h => absurd rfl h)
  exact kk M2 _ (C1.hi (ok_card O) H2) R2 (ok_card O)
set_option maxRecDepth 100000 in
theorem lw_c4 {L i : Nat} {xs : Nat → Int32} {M : MM} {S : St} {Q : Option Value → MM → Prop} (hL : L ≤ 2560) (hi : i + 5 ≤ L) (C : ClsInv M S) (R : RefInv M S) (O : StOK S) (kk : LwC L xs Q i) : WPg (some (L, xs)) 107 2136 205 158 [some (.retAddr 0), some (.ref 0), some (.ref 83), some (.int (nI i))] [] M Q := by
  have hk : q_cd 205 = kd_L_law := rfl
  obtain ⟨n1, n2⟩ := lw_n
  by_cases hz : xs (i + 2) = 0
  · refine wp_s hk rfl rfl ?_
    refine wp_s hk rfl rfl ?_
    refine wp_s hk rfl rfl ?_
    refine wp_s hk rfl rfl ?_
    refine wp_s hk rfl rfl ?_
    refine wp_sld (jx := i + 1) hk rfl (q_nadd i 1) (by omega) (by omega) ?_
    refine wp_s hk rfl rfl ?_
    refine wp_s hk rfl rfl ?_
    refine wp_s hk rfl rfl ?_
    refine wp_s hk rfl rfl ?_
    refine wp_sld (jx := i + 2) hk rfl (q_nadd i 2) (by omega) (by omega) ?_
    refine wp_ifeq hk rfl (fun _ => ?_) (fun h => absurd hz h)
    refine wp_s hk rfl rfl ?_
    refine wp_callVg hk rfl rfl rfl rfl rfl rfl n1 n2 ?_
    refine k_lose (z := false) C O (fun M1 C1 L1 => ?_)
    have R1 := R.lo L1
    refine wp_s hk rfl rfl ?_
    refine wp_s hk rfl rfl ?_
    refine wp_s hk rfl rfl ?_
    refine wp_s hk rfl rfl ?_
    refine wp_s hk rfl rfl ?_
    refine wp_sld (jx := i + 1) hk rfl (q_nadd i 1) (by omega) (by omega) ?_
    refine wp_s hk rfl rfl ?_
    refine wp_s hk rfl rfl ?_
    refine wp_s hk rfl rfl ?_
    refine wp_s hk rfl rfl ?_
    refine wp_sld (jx := i + 2) hk rfl (q_nadd i 2) (by omega) (by omega) ?_
    refine wp_ifeq hk rfl (fun _ => ?_) (fun h => absurd hz h)
    refine wp_s hk rfl rfl ?_
    refine wp_callVg hk rfl rfl rfl rfl rfl rfl n1 n2 ?_
    refine m_lose (z := false) R1 O (fun M2 R2 H2 => ?_)
    refine wp_iceq hk rfl (fun _ => ?_) (fun h => absurd rfl h)
    exact kk M2 _ (C1.hi (ok_lose O) H2) R2 (ok_lose O)
  · refine wp_s hk rfl rfl ?_
    refine wp_s hk rfl rfl ?_
    refine wp_s hk rfl rfl ?_
    refine wp_s hk rfl rfl ?_
    refine wp_s hk rfl rfl ?_
    refine wp_sld (jx := i + 1) hk rfl (q_nadd i 1) (by omega) (by omega) ?_
    refine wp_s hk rfl rfl ?_
    refine wp_s hk rfl rfl ?_
    refine wp_s hk rfl rfl ?_
    refine wp_s hk rfl rfl ?_
    refine wp_sld (jx := i + 2) hk rfl (q_nadd i 2) (by omega) (by omega) ?_
    refine wp_ifeq hk rfl (fun h => absurd h hz) (fun _ => ?_)
    refine wp_s hk rfl rfl ?_
    refine wp_goto hk rfl ?_
    refine wp_callVg hk rfl rfl rfl rfl rfl rfl n1 n2 ?_
    refine k_lose (z := true) C O (fun M1 C1 L1 => ?_)
    have R1 := R.lo L1
    refine wp_s hk rfl rfl ?_
    refine wp_s hk rfl rfl ?_
    refine wp_s hk rfl rfl ?_
    refine wp_s hk rfl rfl ?_
    refine wp_s hk rfl rfl ?_
    refine wp_sld (jx := i + 1) hk rfl (q_nadd i 1) (by omega) (by omega) ?_
    refine wp_s hk rfl rfl ?_
    refine wp_s hk rfl rfl ?_
    refine wp_s hk rfl rfl ?_
    refine wp_s hk rfl rfl ?_
    refine wp_sld (jx := i + 2) hk rfl (q_nadd i 2) (by omega) (by omega) ?_
    refine wp_ifeq hk rfl (fun h => absurd h hz) (fun _ => ?_)
    refine wp_s hk rfl rfl ?_
    refine wp_goto hk rfl ?_
    refine wp_callVg hk rfl rfl rfl rfl rfl rfl n1 n2 ?_
    refine m_lose (z := true) R1 O (fun M2 R2 H2 => ?_)
    refine wp_iceq hk rfl (fun _ => ?_) (fun h => absurd rfl h)
    exact kk M2 _ (C1.hi (ok_lose O) H2) R2 (ok_lose O)
set_option maxRecDepth 100000 in
theorem lw_c5 {L i : Nat} {xs : Nat → Int32} {M : MM} {S : St} {Q : Option Value → MM → Prop} (hL : L ≤ 2560) (hi : i + 5 ≤ L) (C : ClsInv M S) (R : RefInv M S) (O : StOK S) (kk : LwC L xs Q i) : WPg (some (L, xs)) 107 2136 205 193 [some (.retAddr 0), some (.ref 0), some (.ref 83), some (.int (nI i))] [] M Q := by
  have hk : q_cd 205 = kd_L_law := rfl
  obtain ⟨n1, n2⟩ := lw_n
  refine wp_s hk rfl rfl ?_
  refine wp_s hk rfl rfl ?_
  refine wp_s hk rfl rfl ?_
  refine wp_s hk rfl rfl ?_
  refine wp_s hk rfl rfl ?_
  refine wp_sld (jx := i + 1) hk rfl (q_nadd i 1) (by omega) (by omega) ?_
  refine wp_s hk rfl rfl ?_
  refine wp_s hk rfl rfl ?_
  refine wp_s hk rfl rfl ?_
  refine wp_s hk rfl rfl ?_
  refine wp_sld (jx := i + 2) hk rfl (q_nadd i 2) (by omega) (by omega) ?_
  refine wp_callVg hk rfl rfl rfl rfl rfl rfl n1 n2 ?_
  refine k_at C O (fun M1 K1 => ?_)
  have R1 := R.lo (Lo.kp K1)
  refine wp_s hk rfl rfl ?_
  refine wp_s hk rfl rfl ?_
  refine wp_s hk rfl rfl ?_
  refine wp_s hk rfl rfl ?_
  refine wp_s hk rfl rfl ?_
  refine wp_sld (jx := i + 1) hk rfl (q_nadd i 1) (by omega) (by omega) ?_
  refine wp_s hk rfl rfl ?_
  refine wp_s hk rfl rfl ?_
  refine wp_s hk rfl rfl ?_
  refine wp_s hk rfl rfl ?_
  refine wp_sld (jx := i + 2) hk rfl (q_nadd i 2) (by omega) (by omega) ?_
  refine wp_callVg hk rfl rfl rfl rfl rfl rfl n1 n2 ?_
  refine m_at R1 O (fun M2 F2 => ?_)
  refine wp_iceq hk rfl (fun _ => ?_) (fun h => absurd rfl h)
  exact kk M2 S ((C.kp O K1).hi O (Hi.fr F2)) (R1.fr O F2) O
set_option maxRecDepth 100000 in
theorem lw_c6 {L i : Nat} {xs : Nat → Int32} {M : MM} {S : St} {Q : Option Value → MM → Prop} (hL : L ≤ 2560) (hi : i + 5 ≤ L) (C : ClsInv M S) (R : RefInv M S) (O : StOK S) (kk : LwC L xs Q i) : WPg (some (L, xs)) 107 2136 205 220 [some (.retAddr 0), some (.ref 0), some (.ref 83), some (.int (nI i))] [] M Q := by
  have hk : q_cd 205 = kd_L_law := rfl
  obtain ⟨n1, n2⟩ := lw_n
  refine wp_s hk rfl rfl ?_
  refine wp_s hk rfl rfl ?_
  refine wp_s hk rfl rfl ?_
  refine wp_s hk rfl rfl ?_
  refine wp_s hk rfl rfl ?_
  refine wp_sld (jx := i + 1) hk rfl (q_nadd i 1) (by omega) (by omega) ?_
  refine wp_s hk rfl rfl ?_
  refine wp_s hk rfl rfl ?_
  refine wp_s hk rfl rfl ?_
  refine wp_s hk rfl rfl ?_
  refine wp_sld (jx := i + 2) hk rfl (q_nadd i 2) (by omega) (by omega) ?_
  refine wp_s hk rfl rfl ?_
  refine wp_s hk rfl rfl ?_
  refine wp_s hk rfl rfl ?_
  refine wp_s hk rfl rfl ?_
  refine wp_s hk rfl rfl ?_
  refine wp_s hk rfl rfl ?_
  refine wp_s hk rfl rfl ?_
  refine wp_sld (jx := i + 3) hk rfl (q_nadd i 3) (by omega) (by omega) ?_
  refine wp_s hk rfl rfl ?_
  refine wp_s hk rfl rfl ?_
  refine wp_s hk rfl rfl ?_
  refine wp_s hk rfl rfl ?_
  refine wp_callVg hk rfl rfl rfl rfl rfl rfl n1 n2 ?_
  refine k_write C O (fun M1 C1 L1 => ?_)
  have R1 := R.lo L1
  refine wp_s hk rfl rfl ?_
  refine wp_s hk rfl rfl ?_
  refine wp_s hk rfl rfl ?_
  refine wp_s hk rfl rfl ?_
  refine wp_s hk rfl rfl ?_
  refine wp_sld (jx := i + 1) hk rfl (q_nadd i 1) (by omega) (by omega) ?_
  refine wp_s hk rfl rfl ?_
  refine wp_s hk rfl rfl ?_
  refine wp_s hk rfl rfl ?_
  refine wp_s hk rfl rfl ?_
  refine wp_sld (jx := i + 2) hk rfl (q_nadd i 2) (by omega) (by omega) ?_
  refine wp_s hk rfl rfl ?_
  refine wp_s hk rfl rfl ?_
  refine wp_s hk rfl rfl ?_
  refine wp_s hk rfl rfl ?_
  refine wp_s hk rfl rfl ?_
  refine wp_s hk rfl rfl ?_
  refine wp_s hk rfl rfl ?_
  refine wp_sld (jx := i + 3) hk rfl (q_nadd i 3) (by omega) (by omega) ?_
  refine wp_s hk rfl rfl ?_
  refine wp_s hk rfl rfl ?_
  refine wp_s hk rfl rfl ?_
  refine wp_s hk rfl rfl ?_
  refine wp_callVg hk rfl rfl rfl rfl rfl rfl n1 n2 ?_
  refine m_write R1 O (fun M2 R2 H2 => ?_)
  refine wp_iceq hk rfl (fun _ => ?_) (fun h => absurd rfl h)
  exact kk M2 _ (C1.hi (ok_write O) H2) R2 (ok_write O)
set_option maxRecDepth 100000 in
theorem lw_c7 {L i : Nat} {xs : Nat → Int32} {M : MM} {S : St} {Q : Option Value → MM → Prop} (hL : L ≤ 2560) (hi : i + 5 ≤ L) (C : ClsInv M S) (R : RefInv M S) (O : StOK S) (kk : LwC L xs Q i) : WPg (some (L, xs)) 107 2136 205 271 [some (.retAddr 0), some (.ref 0), some (.ref 83), some (.int (nI i))] [] M Q := by
  have hk : q_cd 205 = kd_L_law := rfl
  obtain ⟨n1, n2⟩ := lw_n
  refine wp_s hk rfl rfl ?_
  refine wp_callVg hk rfl rfl rfl rfl rfl rfl n1 n2 ?_
  refine k_wipe C O (fun M1 C1 L1 => ?_)
  have R1 := R.lo L1
  refine wp_s hk rfl rfl ?_
  refine wp_callVg hk rfl rfl rfl rfl rfl rfl n1 n2 ?_
  refine m_wipe R1 O (fun M2 R2 H2 => ?_)
  refine wp_iceq hk rfl (fun _ => ?_) (fun h => absurd rfl h)
  exact kk M2 _ (C1.hi (ok_wipe O) H2) R2 (ok_wipe O)
set_option maxRecDepth 100000 in
theorem lw_c8 {L i : Nat} {xs : Nat → Int32} {M : MM} {S : St} {Q : Option Value → MM → Prop} (hL : L ≤ 2560) (hi : i + 5 ≤ L) (C : ClsInv M S) (R : RefInv M S) (O : StOK S) (kk : LwC L xs Q i) : WPg (some (L, xs)) 107 2136 205 278 [some (.retAddr 0), some (.ref 0), some (.ref 83), some (.int (nI i))] [] M Q := by
  have hk : q_cd 205 = kd_L_law := rfl
  obtain ⟨n1, n2⟩ := lw_n
  refine wp_s hk rfl rfl ?_
  refine wp_callVg hk rfl rfl rfl rfl rfl rfl n1 n2 ?_
  refine k_fault C O (fun M1 K1 => ?_)
  have R1 := R.lo (Lo.kp K1)
  refine wp_s hk rfl rfl ?_
  refine wp_callVg hk rfl rfl rfl rfl rfl rfl n1 n2 ?_
  refine m_fault R1 O (fun M2 F2 => ?_)
  refine wp_iceq hk rfl (fun _ => ?_) (fun h => absurd rfl h)
  exact kk M2 S ((C.kp O K1).hi O (Hi.fr F2)) (R1.fr O F2) O
set_option maxRecDepth 100000 in
theorem lw_c9 {L i : Nat} {xs : Nat → Int32} {M : MM} {S : St} {Q : Option Value → MM → Prop} (hL : L ≤ 2560) (hi : i + 5 ≤ L) (C : ClsInv M S) (R : RefInv M S) (O : StOK S) (kk : LwC L xs Q i) : WPg (some (L, xs)) 107 2136 205 285 [some (.retAddr 0), some (.ref 0), some (.ref 83), some (.int (nI i))] [] M Q := by
  have hk : q_cd 205 = kd_L_law := rfl
  obtain ⟨n1, n2⟩ := lw_n
  refine wp_s hk rfl rfl ?_
  refine wp_s hk rfl rfl ?_
  refine wp_s hk rfl rfl ?_
  refine wp_s hk rfl rfl ?_
  refine wp_s hk rfl rfl ?_
  refine wp_sld (jx := i + 1) hk rfl (q_nadd i 1) (by omega) (by omega) ?_
  refine wp_callVg hk rfl rfl rfl rfl rfl rfl n1 n2 ?_
  refine k_rule C O (fun M1 C1 L1 => ?_)
  have R1 := R.lo L1
  refine wp_s hk rfl rfl ?_
  refine wp_s hk rfl rfl ?_
  refine wp_s hk rfl rfl ?_
  refine wp_s hk rfl rfl ?_
  refine wp_s hk rfl rfl ?_
  refine wp_sld (jx := i + 1) hk rfl (q_nadd i 1) (by omega) (by omega) ?_
  refine wp_callVg hk rfl rfl rfl rfl rfl rfl n1 n2 ?_
  refine m_rule R1 O (fun M2 R2 H2 => ?_)
  refine wp_iceq hk rfl (fun _ => ?_) (fun h => absurd rfl h)
  exact kk M2 _ (C1.hi (ok_rule O) H2) R2 (ok_rule O)
