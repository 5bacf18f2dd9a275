/-- the same cells in other rows -/
theorem RealmT.same {j : Nat} {dn : Int32} {df : Nat → Int32} {dr : Nat → Int32} {row : Nat → Int32} {fe : Nat → Int32} {to : Nat → Int32} {cnt : Int32} {next : Int32} {store : Nat → Int32} {calls : Int32} {bord : Int32} {rep : Int32} {unl : Int32} {pay : Int32} {cl : Nat → Int32} {ul : Nat → Int32} {ga : Nat → Int32} {py : Nat → Int32} {pr : Nat → Int32} {tx : Int32} {rul : Int32} {a a2 : Nat → Int32} {S : Nat → Nat} {df2 dr2 row2 fe2 to2 store2 cl2 ul2 ga2 py2 pr2 : Nat → Int32} (h : RealmT j dn df dr row fe to cnt next store calls bord rep unl pay cl ul ga py pr tx rul a S) (hA2 : TieA a2 S) (e_df : ∀ i, i < 8 → df2 i = df i) (e_dr : ∀ i, i < 8 → dr2 i = dr i) (e_row : ∀ i, i < 76 → row2 i = row i) (e_fe : ∀ i, i < 6 → fe2 i = fe i) (e_to : ∀ i, i < 18 → to2 i = to i) (e_store : ∀ i, i < 2356 → store2 i = store i) (e_cl : ∀ i, i < 5 → cl2 i = cl i) (e_ul : ∀ i, i < 8 → ul2 i = ul i) (e_ga : ∀ i, i < 8 → ga2 i = ga i) (e_py : ∀ i, i < 8 → py2 i = py i) (e_pr : ∀ i, i < 8 → pr2 i = pr i) : RealmT j dn df2 dr2 row2 fe2 to2 cnt next store2 calls bord rep unl pay cl2 ul2 ga2 py2 pr2 tx rul a2 S := by
  obtain ⟨hA, hL, hR, hW, hF, hB, hZ, ⟨n1, n2, n3, n4, n5⟩, hI, hj⟩ := h
  have w1 := hW.1
  have l8 := hL.2.1
  refine ⟨hA2, ?_, ?_, hW, ?_, ?_, ?_, ⟨?_, n2, ?_, ?_, ?_⟩, hI, hj⟩
  · obtain ⟨h1, h2, h3, h4, h5, h6⟩ := hL
    exact ⟨h1, h2, fun k hk => by rw [e_df k (by omega)]; exact h3 k hk, fun k hk => by rw [e_dr k (by omega)]; exact h4 k hk, fun k hk hk8 => by rw [e_dr k (by omega)]; exact h5 k hk hk8, h6⟩
  · obtain ⟨r1, r2, r3, r4, r5⟩ := hR
    exact ⟨by rw [e_row 0 (by omega)]; exact r1, by rw [e_row 1 (by omega)]; exact r2, by rw [e_row 2 (by omega)]; exact r3, by rw [e_row 3 (by omega)]; exact r4, fun p k hp hk => by rw [e_row _ (by omega)]; exact r5 p k hp hk⟩
  · intro p hp
    rw [e_fe p (by omega), e_to (3 * p) (by omega), e_to (3 * p + 1) (by omega), e_to (3 * p + 2) (by omega)]
    exact hF p hp
  · have := Nat.min_le_right (S 12) 30
    exact ⟨by rw [e_row 3 (by omega)]; exact hB.1, fun i hi => by rw [e_row _ (by omega)]; exact hB.2 i hi⟩
  · obtain ⟨z1, z2, nx, z3, z4, z5⟩ := hZ
    refine ⟨z1, z2, nx, z3, z4, fun k hk => ?_⟩
    obtain ⟨⟨s1, s2, s3, s4, s5, s6, s7, s8, s9⟩, g2, g3⟩ := z5 k hk
    have hsl : slot nx (S 4) k < 31 := Nat.mod_lt _ (by omega)
    have hm := Nat.min_le_right (S (142 + 46 * k + 3)) 30
    refine ⟨⟨?_, ?_, ?_, fun p q hp hq => ?_, s5, s6, s7, s8, ?_, fun i hi => ?_⟩, g2, g3⟩
    · show store2 _ = _
      rw [e_store _ (by omega)]; exact s1
    · show store2 _ = _
      rw [e_store _ (by omega)]; exact s2
    · show store2 _ = _
      rw [e_store _ (by omega)]; exact s3
    · show store2 _ = _
      rw [e_store _ (by omega)]; exact s4 p q hp hq
    · show store2 _ = _
      rw [e_store _ (by omega)]; exact s9.1
    · show store2 _ = _
      rw [e_store _ (by omega)]; exact s9.2 i hi
  · obtain ⟨c1, c2, c3⟩ := n1
    exact ⟨c1, c2, fun k hk => by rw [e_cl k (by omega)]; exact c3 k hk⟩
  · obtain ⟨c1, c2, c3, c4, c5, U, c6, c7⟩ := n3
    exact ⟨c1, c2, c3, c4, c5, U, fun i hi => by rw [e_ul i hi]; exact c6 i hi, c7⟩
  · exact fun k hk => by rw [e_ga k hk]; exact n4 k hk
  · obtain ⟨c1, c2, c3⟩ := n5
    exact ⟨c1, c2, fun k hk => by rw [e_py k (by omega), e_pr k (by omega)]; exact c3 k hk⟩
theorem cpy0 {f g : Nat → Int32} {n i : Nat} (h : i < n) : va_cpy f g 0 0 n i = f i := by
  rw [pk_cpy_in (by omega) (by omega)]; congr 1; omega
theorem cBecome {N : Nat} {dn : Int32} {df : Nat → Int32} {dr : Nat → Int32} {row : Nat → Int32} {fe : Nat → Int32} {to : Nat → Int32} {cnt : Int32} {next : Int32} {store : Nat → Int32} {calls : Int32} {bord : Int32} {rep : Int32} {unl : Int32} {pay : Int32} {cl : Nat → Int32} {ul : Nat → Int32} {ga : Nat → Int32} {py : Nat → Int32} {pr : Nat → Int32} {tx : Int32} {rul : Int32} {dnk : Int32} {dfk : Nat → Int32} {drk : Nat → Int32} {rowk : Nat → Int32} {fek : Nat → Int32} {tok : Nat → Int32} {cntk : Int32} {nextk : Int32} {storek : Nat → Int32} {callsk : Int32} {bordk : Int32} {repk : Int32} {unlk : Int32} {payk : Int32} {clk : Nat → Int32} {ulk : Nat → Int32} {gak : Nat → Int32} {pyk : Nat → Int32} {prk : Nat → Int32} {txk : Int32} {rulk : Int32} : f_X6_become N dnk dfk drk rowk fek tok cntk nextk storek callsk bordk repk unlk payk clk ulk gak pyk prk txk rulk dn df dr row fe to cnt next store calls bord rep unl pay cl ul ga py pr tx rul = some (dn, va_cpy df dfk 0 0 8, va_cpy dr drk 0 0 8, va_cpy row rowk 0 0 76, va_cpy fe fek 0 0 6, va_cpy to tok 0 0 18, cnt, next, va_cpy store storek 0 0 2356, calls, bord, rep, unl, pay, va_cpy cl clk 0 0 5, va_cpy ul ulk 0 0 8, va_cpy ga gak 0 0 8, va_cpy py pyk 0 0 8, va_cpy pr prk 0 0 8, tx, rul) := by
  simp (disch := omega) only [f_X6_become, f_X2_become, f_X1_become, f_X7_become, f_X4_become, li, cpI_n, ob3_s]
  rfl
theorem st_image {j : Nat} {N : Nat} {dn : Int32} {df : Nat → Int32} {dr : Nat → Int32} {row : Nat → Int32} {fe : Nat → Int32} {to : Nat → Int32} {cnt : Int32} {next : Int32} {store : Nat → Int32} {calls : Int32} {bord : Int32} {rep : Int32} {unl : Int32} {pay : Int32} {cl : Nat → Int32} {ul : Nat → Int32} {ga : Nat → Int32} {py : Nat → Int32} {pr : Nat → Int32} {tx : Int32} {rul : Int32} {dnk : Int32} {dfk : Nat → Int32} {drk : Nat → Int32} {rowk : Nat → Int32} {fek : Nat → Int32} {tok : Nat → Int32} {cntk : Int32} {nextk : Int32} {storek : Nat → Int32} {callsk : Int32} {bordk : Int32} {repk : Int32} {unlk : Int32} {payk : Int32} {clk : Nat → Int32} {ulk : Nat → Int32} {gak : Nat → Int32} {pyk : Nat → Int32} {prk : Nat → Int32} {txk : Int32} {rulk : Int32} {a im : Nat → Int32} {S : Nat → Nat} (hN : 10000 ≤ N) (h : RealmT j dn df dr row fe to cnt next store calls bord rep unl pay cl ul ga py pr tx rul a S) :
    ∃ (r : Int32) (dn' : Int32) (df' : Nat → Int32) (dr' : Nat → Int32) (row' : Nat → Int32) (fe' : Nat → Int32) (to' : Nat → Int32) (cnt' : Int32) (next' : Int32) (store' : Nat → Int32) (calls' : Int32) (bord' : Int32) (rep' : Int32) (unl' : Int32) (pay' : Int32) (cl' : Nat → Int32) (ul' : Nat → Int32) (ga' : Nat → Int32) (py' : Nat → Int32) (pr' : Nat → Int32) (tx' : Int32) (rul' : Int32) (im' : Nat → Int32), f_X11_image N dn df dr row fe to cnt next store calls bord rep unl pay cl ul ga py pr tx rul dnk dfk drk rowk fek tok cntk nextk storek callsk bordk repk unlk payk clk ulk gak pyk prk txk rulk = some (r, dn', df', dr', row', fe', to', cnt', next', store', calls', bord', rep', unl', pay', cl', ul', ga', py', pr', tx', rul') ∧ f_X12_image N a im = some (r, im') ∧ RealmT (j + 1) dn' df' dr' row' fe' to' cnt' next' store' calls' bord' rep' unl' pay' cl' ul' ga' py' pr' tx' rul' im' S := by
  have h0 := h
  obtain ⟨hA, hL, hR, hW, hF, hB, hZ, hQ, hI, hj⟩ := h
  obtain ⟨im', g1, g2⟩ := rCopy (to := im) hN hA
  refine ⟨nI (S 10), dn, va_cpy df dfk 0 0 8, va_cpy dr drk 0 0 8, va_cpy row rowk 0 0 76, va_cpy fe fek 0 0 6, va_cpy to tok 0 0 18, cnt, next, va_cpy store storek 0 0 2356, calls, bord, rep, unl, pay, va_cpy cl clk 0 0 5, va_cpy ul ulk 0 0 8, va_cpy ga gak 0 0 8, va_cpy py pyk 0 0 8, va_cpy pr prk 0 0 8, tx, rul, im', ?_, ?_, ?_⟩
  · rw [f_X11_image, cBecome]
    simp (disch := omega) only [ob21, f_X1_monthNow, li, gA_n, hR.1, ob1_s]
  · simp (disch := omega) only [f_X12_image, g1, ob1_s, li, gA_n, hA.2]
  · exact RealmT.later (h0.same g2 (fun i hi => cpy0 hi) (fun i hi => cpy0 hi) (fun i hi => cpy0 hi) (fun i hi => cpy0 hi) (fun i hi => cpy0 hi) (fun i hi => cpy0 hi) (fun i hi => cpy0 hi) (fun i hi => cpy0 hi) (fun i hi => cpy0 hi) (fun i hi => cpy0 hi) (fun i hi => cpy0 hi))
theorem st_back {j : Nat} {N : Nat} {dn : Int32} {df : Nat → Int32} {dr : Nat → Int32} {row : Nat → Int32} {fe : Nat → Int32} {to : Nat → Int32} {cnt : Int32} {next : Int32} {store : Nat → Int32} {calls : Int32} {bord : Int32} {rep : Int32} {unl : Int32} {pay : Int32} {cl : Nat → Int32} {ul : Nat → Int32} {ga : Nat → Int32} {py : Nat → Int32} {pr : Nat → Int32} {tx : Int32} {rul : Int32} {dnk : Int32} {dfk : Nat → Int32} {drk : Nat → Int32} {rowk : Nat → Int32} {fek : Nat → Int32} {tok : Nat → Int32} {cntk : Int32} {nextk : Int32} {storek : Nat → Int32} {callsk : Int32} {bordk : Int32} {repk : Int32} {unlk : Int32} {payk : Int32} {clk : Nat → Int32} {ulk : Nat → Int32} {gak : Nat → Int32} {pyk : Nat → Int32} {prk : Nat → Int32} {txk : Int32} {rulk : Int32} {a im : Nat → Int32} {S : Nat → Nat} (hN : 10000 ≤ N) (h : RealmT j dn df dr row fe to cnt next store calls bord rep unl pay cl ul ga py pr tx rul im S) :
    ∃ (r : Int32) (dn' : Int32) (df' : Nat → Int32) (dr' : Nat → Int32) (row' : Nat → Int32) (fe' : Nat → Int32) (to' : Nat → Int32) (cnt' : Int32) (next' : Int32) (store' : Nat → Int32) (calls' : Int32) (bord' : Int32) (rep' : Int32) (unl' : Int32) (pay' : Int32) (cl' : Nat → Int32) (ul' : Nat → Int32) (ga' : Nat → Int32) (py' : Nat → Int32) (pr' : Nat → Int32) (tx' : Int32) (rul' : Int32) (a' : Nat → Int32), f_X11_back N dnk dfk drk rowk fek tok cntk nextk storek callsk bordk repk unlk payk clk ulk gak pyk prk txk rulk dn df dr row fe to cnt next store calls bord rep unl pay cl ul ga py pr tx rul = some (r, dn', df', dr', row', fe', to', cnt', next', store', calls', bord', rep', unl', pay', cl', ul', ga', py', pr', tx', rul') ∧ f_X12_back N a im = some (r, a') ∧ RealmT (j + 1) dn' df' dr' row' fe' to' cnt' next' store' calls' bord' rep' unl' pay' cl' ul' ga' py' pr' tx' rul' a' S := by
  have h0 := h
  obtain ⟨hA, hL, hR, hW, hF, hB, hZ, hQ, hI, hj⟩ := h
  obtain ⟨a', g1, g2⟩ := rCopy (to := a) hN hA
  refine ⟨nI (S 10), dn, va_cpy df dfk 0 0 8, va_cpy dr drk 0 0 8, va_cpy row rowk 0 0 76, va_cpy fe fek 0 0 6, va_cpy to tok 0 0 18, cnt, next, va_cpy store storek 0 0 2356, calls, bord, rep, unl, pay, va_cpy cl clk 0 0 5, va_cpy ul ulk 0 0 8, va_cpy ga gak 0 0 8, va_cpy py pyk 0 0 8, va_cpy pr prk 0 0 8, tx, rul, a', ?_, ?_, ?_⟩
  · rw [f_X11_back, cBecome]
    simp (disch := omega) only [ob21, f_X1_monthNow, li, gA_n, cpy0, hR.1, ob1_s]
  · simp (disch := omega) only [f_X12_back, g1, ob1_s, li, gA_n, g2.2]
  · exact RealmT.later (h0.same g2 (fun i hi => cpy0 hi) (fun i hi => cpy0 hi) (fun i hi => cpy0 hi) (fun i hi => cpy0 hi) (fun i hi => cpy0 hi) (fun i hi => cpy0 hi) (fun i hi => cpy0 hi) (fun i hi => cpy0 hi) (fun i hi => cpy0 hi) (fun i hi => cpy0 hi) (fun i hi => cpy0 hi))
