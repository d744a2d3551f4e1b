set_option maxRecDepth 100000 in
theorem lw_c20 {L i : Nat} {xs : Nat → Int32} {M : MM} {S : St} {Q : Option Value → MM → Prop} (hL : L ≤ 2560) (hi : i + 5 ≤ L) (C : ClsInv M S) (R : RefInv M S) (O : StOK S) (kk : LwC L xs Q i) : WPg (some (L, xs)) 107 2136 205 582 [some (.retAddr 0), some (.ref 0), some (.ref 83), some (.int (nI i))] [] M Q := by
  have hk : q_cd 205 = kd_L_law := rfl
  obtain ⟨n1, n2⟩ := lw_n
  refine wp_s hk rfl rfl ?_
  refine wp_callVg hk rfl rfl rfl rfl rfl rfl n1 n2 ?_
  refine k_strike C O (fun M1 K1 => ?_)
  have R1 := R.lo (Lo.kp K1)
  refine wp_s hk rfl rfl ?_
  refine wp_callVg hk rfl rfl rfl rfl rfl rfl n1 n2 ?_
  refine m_strike R1 O (fun M2 F2 => ?_)
  refine wp_iceq hk rfl (fun _ => ?_) (fun h => absurd rfl h)
  exact kk M2 S ((C.kp O K1).hi O (Hi.fr F2)) (R1.fr O F2) O
set_option maxRecDepth 100000 in
theorem lw_c21 {L i : Nat} {xs : Nat → Int32} {M : MM} {S : St} {Q : Option Value → MM → Prop} (hL : L ≤ 2560) (hi : i + 5 ≤ L) (C : ClsInv M S) (R : RefInv M S) (O : StOK S) (kk : LwC L xs Q i) : WPg (some (L, xs)) 107 2136 205 589 [some (.retAddr 0), some (.ref 0), some (.ref 83), some (.int (nI i))] [] M Q := by
  have hk : q_cd 205 = kd_L_law := rfl
  obtain ⟨n1, n2⟩ := lw_n
  refine wp_s hk rfl rfl ?_
  refine wp_s hk rfl rfl ?_
  refine wp_s hk rfl rfl ?_
  refine wp_s hk rfl rfl ?_
  refine wp_s hk rfl rfl ?_
  refine wp_sld (jx := i + 1) hk rfl (q_nadd i 1) (by omega) (by omega) ?_
  refine wp_s hk rfl rfl ?_
  refine wp_s hk rfl rfl ?_
  refine wp_s hk rfl rfl ?_
  refine wp_s hk rfl rfl ?_
  refine wp_sld (jx := i + 2) hk rfl (q_nadd i 2) (by omega) (by omega) ?_
  refine wp_s hk rfl rfl ?_
  refine wp_s hk rfl rfl ?_
  refine wp_s hk rfl rfl ?_
  refine wp_s hk rfl rfl ?_
  refine wp_sld (jx := i + 3) hk rfl (q_nadd i 3) (by omega) (by omega) ?_
  refine wp_s hk rfl rfl ?_
  refine wp_s hk rfl rfl ?_
  refine wp_s hk rfl rfl ?_
  refine wp_s hk rfl rfl ?_
  refine wp_sld (jx := i + 4) hk rfl (q_nadd i 4) (by omega) (by omega) ?_
  refine wp_callVg hk rfl rfl rfl rfl rfl rfl n1 n2 ?_
  refine k_move C O (fun M1 K1 => ?_)
  have R1 := R.lo (Lo.kp K1)
  refine wp_s hk rfl rfl ?_
  refine wp_s hk rfl rfl ?_
  refine wp_s hk rfl rfl ?_
  refine wp_s hk rfl rfl ?_
  refine wp_s hk rfl rfl ?_
  refine wp_sld (jx := i + 1) hk rfl (q_nadd i 1) (by omega) (by omega) ?_
  refine wp_s hk rfl rfl ?_
  refine wp_s hk rfl rfl ?_
  refine wp_s hk rfl rfl ?_
  refine wp_s hk rfl rfl ?_
  refine wp_sld (jx := i + 2) hk rfl (q_nadd i 2) (by omega) (by omega) ?_
  refine wp_s hk rfl rfl ?_
  refine wp_s hk rfl rfl ?_
  refine wp_s hk rfl rfl ?_
  refine wp_s hk rfl rfl ?_
  refine wp_sld (jx := i + 3) hk rfl (q_nadd i 3) (by omega) (by omega) ?_
  refine wp_s hk rfl rfl ?_
  refine wp_s hk rfl rfl ?_
  refine wp_s hk rfl rfl ?_
  refine wp_s hk rfl rfl ?_
  refine wp_sld (jx := i + 4) hk rfl (q_nadd i 4) (by omega) (by omega) ?_
  refine wp_callVg hk rfl rfl rfl rfl rfl rfl n1 n2 ?_
  refine m_move R1 O (fun M2 F2 => ?_)
  refine wp_iceq hk rfl (fun _ => ?_) (fun h => absurd rfl h)
  exact kk M2 S ((C.kp O K1).hi O (Hi.fr F2)) (R1.fr O F2) O
set_option maxRecDepth 100000 in
theorem lw_c22 {L i : Nat} {xs : Nat → Int32} {M : MM} {S : St} {Q : Option Value → MM → Prop} (hL : L ≤ 2560) (hi : i + 5 ≤ L) (C : ClsInv M S) (R : RefInv M S) (O : StOK S) (kk : LwC L xs Q i) : WPg (some (L, xs)) 107 2136 205 636 [some (.retAddr 0), some (.ref 0), some (.ref 83), some (.int (nI i))] [] M Q := by
  have hk : q_cd 205 = kd_L_law := rfl
  obtain ⟨n1, n2⟩ := lw_n
  refine wp_s hk rfl rfl ?_
  refine wp_s hk rfl rfl ?_
  refine wp_s hk rfl rfl ?_
  refine wp_s hk rfl rfl ?_
  refine wp_s hk rfl rfl ?_
  refine wp_sld (jx := i + 1) hk rfl (q_nadd i 1) (by omega) (by omega) ?_
  refine wp_s hk rfl rfl ?_
  refine wp_s hk rfl rfl ?_
  refine wp_s hk rfl rfl ?_
  refine wp_s hk rfl rfl ?_
  refine wp_sld (jx := i + 2) hk rfl (q_nadd i 2) (by omega) (by omega) ?_
  refine wp_s hk rfl rfl ?_
  refine wp_s hk rfl rfl ?_
  refine wp_s hk rfl rfl ?_
  refine wp_s hk rfl rfl ?_
  refine wp_sld (jx := i + 3) hk rfl (q_nadd i 3) (by omega) (by omega) ?_
  refine wp_callVg hk rfl rfl rfl rfl rfl rfl n1 n2 ?_
  refine k_bloc C O (fun M1 K1 => ?_)
  have R1 := R.lo (Lo.kp K1)
  refine wp_s hk rfl rfl ?_
  refine wp_s hk rfl rfl ?_
  refine wp_s hk rfl rfl ?_
  refine wp_s hk rfl rfl ?_
  refine wp_s hk rfl rfl ?_
  refine wp_sld (jx := i + 1) hk rfl (q_nadd i 1) (by omega) (by omega) ?_
  refine wp_s hk rfl rfl ?_
  refine wp_s hk rfl rfl ?_
  refine wp_s hk rfl rfl ?_
  refine wp_s hk rfl rfl ?_
  refine wp_sld (jx := i + 2) hk rfl (q_nadd i 2) (by omega) (by omega) ?_
  refine wp_s hk rfl rfl ?_
  refine wp_s hk rfl rfl ?_
  refine wp_s hk rfl rfl ?_
  refine wp_s hk rfl rfl ?_
  refine wp_sld (jx := i + 3) hk rfl (q_nadd i 3) (by omega) (by omega) ?_
  refine wp_callVg hk rfl rfl rfl rfl rfl rfl n1 n2 ?_
  refine m_bloc R1 O (fun M2 F2 => ?_)
  refine wp_iceq hk rfl (fun _ => ?_) (fun h => absurd rfl h)
  exact kk M2 S ((C.kp O K1).hi O (Hi.fr F2)) (R1.fr O F2) O
set_option maxRecDepth 100000 in
theorem lw_c23 {L i : Nat} {xs : Nat → Int32} {M : MM} {S : St} {Q : Option Value → MM → Prop} (hL : L ≤ 2560) (hi : i + 5 ≤ L) (C : ClsInv M S) (R : RefInv M S) (O : StOK S) (kk : LwC L xs Q i) : WPg (some (L, xs)) 107 2136 205 673 [some (.retAddr 0), some (.ref 0), some (.ref 83), some (.int (nI i))] [] M Q := by
  have hk : q_cd 205 = kd_L_law := rfl
  obtain ⟨n1, n2⟩ := lw_n
  refine wp_s hk rfl rfl ?_
  refine wp_s hk rfl rfl ?_
  refine wp_s hk rfl rfl ?_
  refine wp_s hk rfl rfl ?_
  refine wp_s hk rfl rfl ?_
  refine wp_sld (jx := i + 1) hk rfl (q_nadd i 1) (by omega) (by omega) ?_
  refine wp_s hk rfl rfl ?_
  refine wp_s hk rfl rfl ?_
  refine wp_s hk rfl rfl ?_
  refine wp_s hk rfl rfl ?_
  refine wp_sld (jx := i + 2) hk rfl (q_nadd i 2) (by omega) (by omega) ?_
  refine wp_s hk rfl rfl ?_
  refine wp_s hk rfl rfl ?_
  refine wp_s hk rfl rfl ?_
  refine wp_s hk rfl rfl ?_
  refine wp_sld (jx := i + 3) hk rfl (q_nadd i 3) (by omega) (by omega) ?_
  refine wp_callVg hk rfl rfl rfl rfl rfl rfl n1 n2 ?_
  refine k_few C O (fun M1 K1 => ?_)
  have R1 := R.lo (Lo.kp K1)
  refine wp_s hk rfl rfl ?_
  refine wp_s hk rfl rfl ?_
  refine wp_s hk rfl rfl ?_
  refine wp_s hk rfl rfl ?_
  refine wp_s hk rfl rfl ?_
  refine wp_sld (jx := i + 1) hk rfl (q_nadd i 1) (by omega) (by omega) ?_
  refine wp_s hk rfl rfl ?_
  refine wp_s hk rfl rfl ?_
  refine wp_s hk rfl rfl ?_
  refine wp_s hk rfl rfl ?_
  refine wp_sld (jx := i + 2) hk rfl (q_nadd i 2) (by omega) (by omega) ?_
  refine wp_s hk rfl rfl ?_
  refine wp_s hk rfl rfl ?_
  refine wp_s hk rfl rfl ?_
  refine wp_s hk rfl rfl ?_
  refine wp_sld (jx := i + 3) hk rfl (q_nadd i 3) (by omega) (by omega) ?_
  refine wp_callVg hk rfl rfl rfl rfl rfl rfl n1 n2 ?_
  refine m_few R1 O (fun M2 F2 => ?_)
  refine wp_iceq hk rfl (fun _ => ?_) (fun h => absurd rfl h)
  exact kk M2 S ((C.kp O K1).hi O (Hi.fr F2)) (R1.fr O F2) O
set_option maxRecDepth 100000 in
theorem lw_c24 {L i : Nat} {xs : Nat → Int32} {M : MM} {S : St} {Q : Option Value → MM → Prop} (hL : L ≤ 2560) (hi : i + 5 ≤ L) (C : ClsInv M S) (R : RefInv M S) (O : StOK S) (kk : LwC L xs Q i) : WPg (some (L, xs)) 107 2136 205 710 [some (.retAddr 0), some (.ref 0), some (.ref 83), some (.int (nI i))] [] M Q := by
  have hk : q_cd 205 = kd_L_law := rfl
  obtain ⟨n1, n2⟩ := lw_n
  refine wp_s hk rfl rfl ?_
  refine wp_s hk rfl rfl ?_
  refine wp_s hk rfl rfl ?_
  refine wp_s hk rfl rfl ?_
  refine wp_s hk rfl rfl ?_
  refine wp_sld (jx := i + 1) hk rfl (q_nadd i 1) (by omega) (by omega) ?_
  refine wp_s hk rfl rfl ?_
  refine wp_s hk rfl rfl ?_
  refine wp_s hk rfl rfl ?_
  refine wp_s hk rfl rfl ?_
  refine wp_sld (jx := i + 2) hk rfl (q_nadd i 2) (by omega) (by omega) ?_
  refine wp_s hk rfl rfl ?_
  refine wp_s hk rfl rfl ?_
  refine wp_s hk rfl rfl ?_
  refine wp_s hk rfl rfl ?_
  refine wp_sld (jx := i + 3) hk rfl (q_nadd i 3) (by omega) (by omega) ?_
  refine wp_callVg hk rfl rfl rfl rfl rfl rfl n1 n2 ?_
  refine k_drawn C O (fun M1 K1 => ?_)
  have R1 := R.lo (Lo.kp K1)
  refine wp_s hk rfl rfl ?_
  refine wp_s hk rfl rfl ?_
  refine wp_s hk rfl rfl ?_
  refine wp_s hk rfl rfl ?_
  refine wp_s hk rfl rfl ?_
  refine wp_sld (jx := i + 1) hk rfl (q_nadd i 1) (by omega) (by omega) ?_
  refine wp_s hk rfl rfl ?_
  refine wp_s hk rfl rfl ?_
  refine wp_s hk rfl rfl ?_
  refine wp_s hk rfl rfl ?_
  refine wp_sld (jx := i + 2) hk rfl (q_nadd i 2) (by omega) (by omega) ?_
  refine wp_s hk rfl rfl ?_
  refine wp_s hk rfl rfl ?_
  refine wp_s hk rfl rfl ?_
  refine wp_s hk rfl rfl ?_
  refine wp_sld (jx := i + 3) hk rfl (q_nadd i 3) (by omega) (by omega) ?_
  refine wp_callVg hk rfl rfl rfl rfl rfl rfl n1 n2 ?_
  refine m_drawn R1 O (fun M2 F2 => ?_)
  refine wp_iceq hk rfl (fun _ => ?_) (fun h => absurd rfl h)
  exact kk M2 S ((C.kp O K1).hi O (Hi.fr F2)) (R1.fr O F2) O
set_option maxRecDepth 100000 in
theorem lw_c25 {L i : Nat} {xs : Nat → Int32} {M : MM} {S : St} {Q : Option Value → MM → Prop} (hL : L ≤ 2560) (hi : i + 5 ≤ L) (C : ClsInv M S) (R : RefInv M S) (O : StOK S) (kk : LwC L xs Q i) : WPg (some (L, xs)) 107 2136 205 747 [some (.retAddr 0), some (.ref 0), some (.ref 83), some (.int (nI i))] [] M Q := by
  have hk : q_cd 205 = kd_L_law := rfl
  obtain ⟨n1, n2⟩ := lw_n
  refine wp_s hk rfl rfl ?_
  refine wp_s hk rfl rfl ?_
  refine wp_s hk rfl rfl ?_
  refine wp_s hk rfl rfl ?_
  refine wp_s hk rfl rfl ?_
  refine wp_sld (jx := i + 1) hk rfl (q_nadd i 1) (by omega) (by omega) ?_
  refine wp_callVg hk rfl rfl rfl rfl rfl rfl n1 n2 ?_
  refine k_leftOut C O (fun M1 K1 => ?_)
  have R1 := R.lo (Lo.kp K1)
  refine wp_s hk rfl rfl ?_
  refine wp_s hk rfl rfl ?_
  refine wp_s hk rfl rfl ?_
  refine wp_s hk rfl rfl ?_
  refine wp_s hk rfl rfl ?_
  refine wp_sld (jx := i + 1) hk rfl (q_nadd i 1) (by omega) (by omega) ?_
  refine wp_callVg hk rfl rfl rfl rfl rfl rfl n1 n2 ?_
  refine m_leftOut R1 O (fun M2 F2 => ?_)
  refine wp_iceq hk rfl (fun _ => ?_) (fun h => absurd rfl h)
  exact kk M2 S ((C.kp O K1).hi O (Hi.fr F2)) (R1.fr O F2) O
set_option maxRecDepth 100000 in
theorem lw_c26 {L i : Nat} {xs : Nat → Int32} {M : MM} {S : St} {Q : Option Value → MM → Prop} (hL : L ≤ 2560) (hi : i + 5 ≤ L) (C : ClsInv M S) (R : RefInv M S) (O : StOK S) (kk : LwC L xs Q i) : WPg (some (L, xs)) 107 2136 205 764 [some (.retAddr 0), some (.ref 0), some (.ref 83), some (.int (nI i))] [] M Q := by
  have hk : q_cd 205 = kd_L_law := rfl
  obtain ⟨n1, n2⟩ := lw_n
  refine wp_s hk rfl rfl ?_
  refine wp_s hk rfl rfl ?_
  refine wp_s hk rfl rfl ?_
  refine wp_s hk rfl rfl ?_
  refine wp_s hk rfl rfl ?_
  refine wp_sld (jx := i + 1) hk rfl (q_nadd i 1) (by omega) (by omega) ?_
  refine wp_s hk rfl rfl ?_
  refine wp_s hk rfl rfl ?_
  refine wp_s hk rfl rfl ?_
  refine wp_s hk rfl rfl ?_
  refine wp_sld (jx := i + 2) hk rfl (q_nadd i 2) (by omega) (by omega) ?_
  refine wp_s hk rfl rfl ?_
  refine wp_s hk rfl rfl ?_
  refine wp_s hk rfl rfl ?_
  refine wp_s hk rfl rfl ?_
  refine wp_sld (jx := i + 3) hk rfl (q_nadd i 3) (by omega) (by omega) ?_
  refine wp_s hk rfl rfl ?_
  refine wp_s hk rfl rfl ?_
  refine wp_s hk rfl rfl ?_
  refine wp_s hk rfl rfl ?_
  refine wp_sld (jx := i + 4) hk rfl (q_nadd i 4) (by omega) (by omega) ?_
  refine wp_callVg hk rfl rfl rfl rfl rfl rfl n1 n2 ?_
  refine k_turns C O (fun M1 K1 => ?_)
  have R1 := R.lo (Lo.kp K1)
  refine wp_s hk rfl rfl ?_
  refine wp_s hk rfl rfl ?_
  refine wp_s hk rfl rfl ?_
  refine wp_s hk rfl rfl ?_
  refine wp_s hk rfl rfl ?_
  refine wp_sld (jx := i + 1) hk rfl (q_nadd i 1) (by omega) (by omega) ?_
  refine wp_s hk rfl rfl ?_
  refine wp_s hk rfl rfl ?_
  refine wp_s hk rfl rfl ?_
  refine wp_s hk rfl rfl ?_
  refine wp_sld (jx := i + 2) hk rfl (q_nadd i 2) (by omega) (by omega) ?_
  refine wp_s hk rfl rfl ?_
  refine wp_s hk rfl rfl ?_
  refine wp_s hk rfl rfl ?_
  refine wp_s hk rfl rfl ?_
  refine wp_sld (jx := i + 3) hk rfl (q_nadd i 3) (by omega) (by omega) ?_
  refine wp_s hk rfl rfl ?_
  refine wp_s hk rfl rfl ?_
  refine wp_s hk rfl rfl ?_
  refine wp_s hk rfl rfl ?_
  refine wp_sld (jx := i + 4) hk rfl (q_nadd i 4) (by omega) (by omega) ?_
  refine wp_callVg hk rfl rfl rfl rfl rfl rfl n1 n2 ?_
  refine m_turns R1 O (fun M2 F2 => ?_)
  refine wp_iceq hk rfl (fun _ => ?_) (fun h => absurd rfl h)
  exact kk M2 S ((C.kp O K1).hi O (Hi.fr F2)) (R1.fr O F2) O
set_option maxRecDepth 100000 in
theorem lw_c27 {L i : Nat} {xs : Nat → Int32} {M : MM} {S : St} {Q : Option Value → MM → Prop} (hL : L ≤ 2560) (hi : i + 5 ≤ L) (C : ClsInv M S) (R : RefInv M S) (O : StOK S) (kk : LwC L xs Q i) : WPg (some (L, xs)) 107 2136 205 811 [some (.retAddr 0), some (.ref 0), some (.ref 83), some (.int (nI i))] [] M Q := by
  have hk : q_cd 205 = kd_L_law := rfl
  obtain ⟨n1, n2⟩ := lw_n
  refine wp_s hk rfl rfl ?_
  refine wp_s hk rfl rfl ?_
  refine wp_s hk rfl rfl ?_
  refine wp_s hk rfl rfl ?_
  refine wp_s hk rfl rfl ?_
  refine wp_sld (jx := i + 1) hk rfl (q_nadd i 1) (by omega) (by omega) ?_
  refine wp_callVg hk rfl rfl rfl rfl rfl rfl n1 n2 ?_
  refine k_thirds C O (fun M1 K1 => ?_)
  have R1 := R.lo (Lo.kp K1)
  refine wp_s hk rfl rfl ?_
  refine wp_s hk rfl rfl ?_
  refine wp_s hk rfl rfl ?_
  refine wp_s hk rfl rfl ?_
  refine wp_s hk rfl rfl ?_
  refine wp_sld (jx := i + 1) hk rfl (q_nadd i 1) (by omega) (by omega) ?_
  refine wp_callVg hk rfl rfl rfl rfl rfl rfl n1 n2 ?_
  refine m_thirds R1 O (fun M2 F2 => ?_)
  refine wp_iceq hk rfl (fun _ => ?_) (fun h => absurd rfl h)
  exact kk M2 S ((C.kp O K1).hi O (Hi.fr F2)) (R1.fr O F2) O
set_option maxRecDepth 100000 in
theorem lw_c28 {L i : Nat} {xs : Nat → Int32} {M : MM} {S : St} {Q : Option Value → MM → Prop} (hL : L ≤ 2560) (hi : i + 5 ≤ L) (C : ClsInv M S) (R : RefInv M S) (O : StOK S) (kk : LwC L xs Q i) : WPg (some (L, xs)) 107 2136 205 828 [some (.retAddr 0), some (.ref 0), some (.ref 83), some (.int (nI i))] [] M Q := by
  have hk : q_cd 205 = kd_L_law := rfl
  obtain ⟨n1, n2⟩ := lw_n
  refine wp_s hk rfl rfl ?_
  refine wp_callVg hk rfl rfl rfl rfl rfl rfl n1 n2 ?_
  refine k_keep C O (fun M1 C1 L1 => ?_)
  have R1 := R.lo L1
  refine wp_s hk rfl rfl ?_
  refine wp_callVg hk rfl rfl rfl rfl rfl rfl n1 n2 ?_
  refine m_keep R1 O (fun M2 R2 H2 => ?_)
  refine wp_iceq hk rfl (fun _ => ?_) (fun h => absurd rfl h)
  exact kk M2 _ (C1.hi (ok_keep O) H2) R2 (ok_keep O)
set_option maxRecDepth 100000 in
theorem lw_c29 {L i : Nat} {xs : Nat → Int32} {M : MM} {S : St} {Q : Option Value → MM → Prop} (hL : L ≤ 2560) (hi : i + 5 ≤ L) (C : ClsInv M S) (R : RefInv M S) (O : StOK S) (kk : LwC L xs Q i) : WPg (some (L, xs)) 107 2136 205 835 [some (.retAddr 0), some (.ref 0), some (.ref 83), some (.int (nI i))] [] M Q := by
  have hk : q_cd 205 = kd_L_law := rfl
  obtain ⟨n1, n2⟩ := lw_n
  refine wp_s hk rfl rfl ?_
  refine wp_callVg hk rfl rfl rfl rfl rfl rfl n1 n2 ?_
  refine k_forget C O (fun M1 C1 L1 => ?_)
  have R1 := R.lo L1
  refine wp_s hk rfl rfl ?_
  refine wp_callVg hk rfl rfl rfl rfl rfl rfl n1 n2 ?_
  refine m_forget R1 O (fun M2 R2 H2 => ?_)
  refine wp_iceq hk rfl (fun _ => ?_) (fun h => absurd rfl h)
  exact kk M2 _ (C1.hi (ok_forget O) H2) R2 (ok_forget O)
