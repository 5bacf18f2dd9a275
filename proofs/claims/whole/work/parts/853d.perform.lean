theorem kPerf3 {j : Nat} {dn : Int32} {df dr row fe to : Nat → Int32} {cnt next : Int32} {store : Nat → Int32} {calls bord rep unl pay : Int32} {cl ul ga py pr : Nat → Int32} {tx rul : Int32} {a : Nat → Int32} {S : Nat → Nat} {N c k : Nat} {tcl : Int32} {tcd tst ten trw : Nat → Int32} {ucl : Int32} {ucd ust uen urw : Nat → Int32} {wcl : Int32} {wcd wst wen wrw : Nat → Int32} {xcl : Int32} {xcd xst xen xrw : Nat → Int32} {vt : Nat → Int32} {nm0 nd0 stack truth : Nat → Int32} {values : Nat → Int64} (died : Int32) (hN : 10000 ≤ N) (hJ : j ≤ 20000) (hT : TextsT N tcl tcd tst ten trw ucl ucd ust uen urw wcl wcd wst wen wrw xcl xcd xst xen xrw vt (S 2)) (hc : c ≤ 24) (hcl : xcl = nI c) (hk : k < c) (hK : ClauseT xrw vt 3 k) (h : RealmT j dn df dr row fe to cnt next store calls bord rep unl pay cl ul ga py pr tx rul a S) :
    ∃ (b : Int32) (dn' : Int32) (df' dr' row' fe' to' : Nat → Int32) (cnt' next' : Int32) (store' nm' stack' a' nd' : Nat → Int32) (values' : Nat → Int64) (truth' : Nat → Int32) (died' : Int32) (S' : Nat → Nat), f_X11_perform_3 N dn df dr row fe to cnt next store tx rul tcd tst ten ucd ust uen wcd wst wen xcl xcd xst xen xrw nm0 stack (nI k) = some (b, dn', df', dr', row', fe', to', cnt', next', store', nm', stack') ∧ f_X12_isPlayed N a vt nd0 values truth (nI 1) died (nI (729 * 3 + 1 + 5 * k)) = some (b, a', nd', values', truth', died') ∧ RealmT (j + 1) dn' df' dr' row' fe' to' cnt' next' store' calls bord rep unl pay cl ul ga py pr tx rul a' S' ∧ S' 2 = S 2 := by
  obtain ⟨kd, v1, v2, v3, v4, hkd, r0, t0, h1, h2, h3, h12⟩ := hK
  have c0 : f_X9_part N (nI c) xrw (nI k) 0 = some (xrw (5 * k + 0)) := cPart (i := 0) hk hc (by omega)
  have c1 : f_X9_part N (nI c) xrw (nI k) 1 = some (xrw (5 * k + 1)) := cPart (i := 1) hk hc (by omega)
  have c2 : f_X9_part N (nI c) xrw (nI k) 2 = some (xrw (5 * k + 2)) := cPart (i := 2) hk hc (by omega)
  have c3 : f_X9_part N (nI c) xrw (nI k) 3 = some (xrw (5 * k + 3)) := cPart (i := 3) hk hc (by omega)
  have c4 : f_X9_part N (nI c) xrw (nI k) 4 = some (xrw (5 * k + 4)) := cPart (i := 4) hk hc (by omega)
  rw [Nat.add_zero, r0] at c0
  subst hcl
  generalize hX : 729 * 3 + 1 + 5 * k = X at *
  have hX2 : X + 4 < 2916 := by omega
  have x1 : nI X + (1 : Int32) = nI (X + 1) := nI_1 X
  have x2 : nI X + (2 : Int32) = nI (X + 2) := nI_add X 2
  have x3 : nI X + (3 : Int32) = nI (X + 3) := nI_add X 3
  have x4 : nI X + (4 : Int32) = nI (X + 4) := nI_add X 4
  rcases (show kd < 4 ∨ kd = 4 ∨ kd = 5 ∨ kd = 6 ∨ kd = 7 ∨ kd = 8 ∨ kd = 9 ∨ kd = 10 ∨ kd = 11 ∨ kd = 12 by omega) with e | e | e | e | e | e | e | e | e | e
  · have es : sortN kd = kd := if_pos e
    rw [es] at t0
    have nk : ∀ m, 4 ≤ m → m < 100 → ¬ nI kd = nI m := fun m h1 h2 h => by have := (neq (by omega) (by omega)).mp h; omega
    refine ⟨nI 1, dn, df, dr, row, fe, to, cnt, next, store, nm0, stack, a, nd0, values, truth, died, S, ?_, ?_, h.later, rfl⟩
    · rw [f_X11_perform_3, c1, ob1_s, c2, ob1_s, c0, ob1_s, if_neg (show ¬ nI kd = (4 : Int32) from nk 4 (by omega) (by omega)), if_neg (show ¬ nI kd = (5 : Int32) from nk 5 (by omega) (by omega)), if_neg (show ¬ nI kd = (6 : Int32) from nk 6 (by omega) (by omega)), if_neg (show ¬ nI kd = (7 : Int32) from nk 7 (by omega) (by omega)), if_neg (show ¬ nI kd = (8 : Int32) from nk 8 (by omega) (by omega)), if_neg (show ¬ nI kd = (9 : Int32) from nk 9 (by omega) (by omega)), if_neg (show ¬ nI kd = (10 : Int32) from nk 10 (by omega) (by omega)), if_neg (show ¬ nI kd = (11 : Int32) from nk 11 (by omega) (by omega)), if_neg (show ¬ nI kd = (12 : Int32) from nk 12 (by omega) (by omega))]
      rfl
    · rw [f_X12_isPlayed, x1, gA_n (by omega) (by omega), x2, gA_n (by omega) (by omega), gA_n (by omega) (by omega), t0, if_neg (show ¬ nI kd = (4 : Int32) from nk 4 (by omega) (by omega)), if_neg (show ¬ nI kd = (5 : Int32) from nk 5 (by omega) (by omega)), if_neg (show ¬ nI kd = (6 : Int32) from nk 6 (by omega) (by omega)), if_neg (show ¬ nI kd = (7 : Int32) from nk 7 (by omega) (by omega)), if_neg (show ¬ nI kd = (8 : Int32) from nk 8 (by omega) (by omega)), if_neg (show ¬ nI kd = (9 : Int32) from nk 9 (by omega) (by omega)), if_neg (show ¬ nI kd = (10 : Int32) from nk 10 (by omega) (by omega)), if_neg (show ¬ nI kd = (11 : Int32) from nk 11 (by omega) (by omega)), if_neg (show ¬ nI kd = (12 : Int32) from nk 12 (by omega) (by omega))]
      rfl
  · subst e
    obtain ⟨a1, b1, l1⟩ := h1 (by omega)
    obtain ⟨a2, b2, l2⟩ := h2 (by omega) (by omega)
    rw [a1] at c1
    rw [a2] at c2
    have t0 : vt X = nI 5 := t0
    obtain ⟨r, dr', a', S', g1, g2, g3, g4⟩ := st_road (N := N) (nI v1) (nI v2) h
    refine ⟨r, dn, df, dr', row, fe, to, cnt, next, store, nm0, stack, a', nd0, values, truth, died, S', ?_, ?_, g3, g4⟩
    · rw [f_X11_perform_3, c1, ob1_s, c2, ob1_s, c0, ob1_s, if_pos (show nI 4 = (4 : Int32) by decide), g1, ob2_s]
    · rw [f_X12_isPlayed, x1, gA_n (by omega) (by omega), x2, gA_n (by omega) (by omega), gA_n (by omega) (by omega), t0, if_neg (show ¬ nI 5 = (4 : Int32) by decide), if_pos (show nI 5 = (5 : Int32) by decide), b1, b2, g2, ob2_s]
  · subst e
    obtain ⟨a1, b1, l1⟩ := h1 (by omega)
    obtain ⟨a2, b2, l2⟩ := h2 (by omega) (by omega)
    rw [a1] at c1
    rw [a2] at c2
    have t0 : vt X = nI 6 := t0
    obtain ⟨a3, b3, l3, a4, b4, l4⟩ := h3 rfl
    rw [a3] at c3
    rw [a4] at c4
    obtain ⟨r, row', fe', to', a', S', g1, g2, g3, g4, g5⟩ := st_person (N := N) (by omega) (nI v1) (nI v2) (nI v3) (nI v4) h
    rcases ansL g5 with ⟨m1, m2⟩ | ⟨m1, m2⟩
    · refine ⟨nI 0, dn, df, dr, row', fe', to', cnt, next, store, nm0, stack, a', nd0, values, truth, died, S', ?_, ?_, g3, g4⟩
      · rw [f_X11_perform_3, c1, ob1_s, c2, ob1_s, c0, ob1_s, if_neg (show ¬ nI 5 = (4 : Int32) by decide), if_pos (show nI 5 = (5 : Int32) by decide), c3, ob1_s, c4, ob1_s, g1, ob4_s, if_pos (show r = (-1 : Int32) from m1)]
        rfl
      · rw [f_X12_isPlayed, x1, gA_n (by omega) (by omega), x2, gA_n (by omega) (by omega), gA_n (by omega) (by omega), t0, if_neg (show ¬ nI 6 = (4 : Int32) by decide), if_neg (show ¬ nI 6 = (5 : Int32) by decide), if_pos (show nI 6 = (6 : Int32) by decide), b1, b2, x3, gA_n (by omega) (by omega), x4, gA_n (by omega) (by omega), b3, b4, g2, ob2_s, if_pos (show r < (0 : Int32) from m2)]
        rfl
    · refine ⟨nI 1, dn, df, dr, row', fe', to', cnt, next, store, nm0, stack, a', nd0, values, truth, died, S', ?_, ?_, g3, g4⟩
      · rw [f_X11_perform_3, c1, ob1_s, c2, ob1_s, c0, ob1_s, if_neg (show ¬ nI 5 = (4 : Int32) by decide), if_pos (show nI 5 = (5 : Int32) by decide), c3, ob1_s, c4, ob1_s, g1, ob4_s, if_neg (show ¬ r = (-1 : Int32) from m1)]
        rfl
      · rw [f_X12_isPlayed, x1, gA_n (by omega) (by omega), x2, gA_n (by omega) (by omega), gA_n (by omega) (by omega), t0, if_neg (show ¬ nI 6 = (4 : Int32) by decide), if_neg (show ¬ nI 6 = (5 : Int32) by decide), if_pos (show nI 6 = (6 : Int32) by decide), b1, b2, x3, gA_n (by omega) (by omega), x4, gA_n (by omega) (by omega), b3, b4, g2, ob2_s, if_neg (show ¬ r < (0 : Int32) from m2)]
        rfl
  · subst e
    obtain ⟨a1, b1, l1⟩ := h1 (by omega)
    obtain ⟨a2, b2, l2⟩ := h2 (by omega) (by omega)
    rw [a1] at c1
    rw [a2] at c2
    have t0 : vt X = nI 7 := t0
    obtain ⟨r, row', cnt', next', store', a', S', g1, g2, g3, g4, g5⟩ := st_call hN hJ (nI v1) (nI v2) h
    rcases ansL g5 with ⟨m1, m2⟩ | ⟨m1, m2⟩
    · refine ⟨nI 0, dn, df, dr, row', fe, to, cnt', next', store', nm0, stack, a', nd0, values, truth, died, S', ?_, ?_, g3, g4⟩
      · rw [f_X11_perform_3, c1, ob1_s, c2, ob1_s, c0, ob1_s, if_neg (show ¬ nI 6 = (4 : Int32) by decide), if_neg (show ¬ nI 6 = (5 : Int32) by decide), if_pos (show nI 6 = (6 : Int32) by decide), g1, ob5_s, if_pos (show r = (-1 : Int32) from m1)]
        rfl
      · rw [f_X12_isPlayed, x1, gA_n (by omega) (by omega), x2, gA_n (by omega) (by omega), gA_n (by omega) (by omega), t0, if_neg (show ¬ nI 7 = (4 : Int32) by decide), if_neg (show ¬ nI 7 = (5 : Int32) by decide), if_neg (show ¬ nI 7 = (6 : Int32) by decide), if_pos (show nI 7 = (7 : Int32) by decide), b1, b2, g2, ob2_s, if_pos (show r < (0 : Int32) from m2)]
        rfl
    · refine ⟨nI 1, dn, df, dr, row', fe, to, cnt', next', store', nm0, stack, a', nd0, values, truth, died, S', ?_, ?_, g3, g4⟩
      · rw [f_X11_perform_3, c1, ob1_s, c2, ob1_s, c0, ob1_s, if_neg (show ¬ nI 6 = (4 : Int32) by decide), if_neg (show ¬ nI 6 = (5 : Int32) by decide), if_pos (show nI 6 = (6 : Int32) by decide), g1, ob5_s, if_neg (show ¬ r = (-1 : Int32) from m1)]
        rfl
      · rw [f_X12_isPlayed, x1, gA_n (by omega) (by omega), x2, gA_n (by omega) (by omega), gA_n (by omega) (by omega), t0, if_neg (show ¬ nI 7 = (4 : Int32) by decide), if_neg (show ¬ nI 7 = (5 : Int32) by decide), if_neg (show ¬ nI 7 = (6 : Int32) by decide), if_pos (show nI 7 = (7 : Int32) by decide), b1, b2, g2, ob2_s, if_neg (show ¬ r < (0 : Int32) from m2)]
        rfl
  · subst e
    obtain ⟨a1, b1, l1⟩ := h1 (by omega)
    obtain ⟨a2, b2, l2⟩ := h2 (by omega) (by omega)
    rw [a1] at c1
    rw [a2] at c2
    have t0 : vt X = nI 8 := t0
    obtain ⟨r, row', cnt', next', store', a', S', g1, g2, g3, g4⟩ := st_move hN (nI v1) (nI v2) h
    refine ⟨r, dn, df, dr, row', fe, to, cnt', next', store', nm0, stack, a', nd0, values, truth, died, S', ?_, ?_, g3, g4⟩
    · rw [f_X11_perform_3, c1, ob1_s, c2, ob1_s, c0, ob1_s, if_neg (show ¬ nI 7 = (4 : Int32) by decide), if_neg (show ¬ nI 7 = (5 : Int32) by decide), if_neg (show ¬ nI 7 = (6 : Int32) by decide), if_pos (show nI 7 = (7 : Int32) by decide), g1, ob5_s]
    · rw [f_X12_isPlayed, x1, gA_n (by omega) (by omega), x2, gA_n (by omega) (by omega), gA_n (by omega) (by omega), t0, if_neg (show ¬ nI 8 = (4 : Int32) by decide), if_neg (show ¬ nI 8 = (5 : Int32) by decide), if_neg (show ¬ nI 8 = (6 : Int32) by decide), if_neg (show ¬ nI 8 = (7 : Int32) by decide), if_pos (show nI 8 = (8 : Int32) by decide), b1, b2, g2, ob2_s]
  · subst e
    obtain ⟨a1, b1, l1⟩ := h1 (by omega)
    obtain ⟨a2, b2, l2⟩ := h2 (by omega) (by omega)
    rw [a1] at c1
    rw [a2] at c2
    have t0 : vt X = nI 9 := t0
    obtain ⟨r, row', cnt', next', store', nm', stack', a', nd', values', truth', S', g1, g2, g3, g4, g5⟩ := st_feeds (nm0 := nm0) (nd0 := nd0) (stack := stack) (truth := truth) (values := values) hN hJ hT (nI v1) (nI v2) h
    rcases ansL g5 with ⟨m1, m2⟩ | ⟨m1, m2⟩
    · refine ⟨nI 0, dn, df, dr, row', fe, to, cnt', next', store', nm', stack', a', nd', values', truth', died, S', ?_, ?_, g3, g4⟩
      · rw [f_X11_perform_3, c1, ob1_s, c2, ob1_s, c0, ob1_s, if_neg (show ¬ nI 8 = (4 : Int32) by decide), if_neg (show ¬ nI 8 = (5 : Int32) by decide), if_neg (show ¬ nI 8 = (6 : Int32) by decide), if_neg (show ¬ nI 8 = (7 : Int32) by decide), if_pos (show nI 8 = (8 : Int32) by decide), g1, ob7_s, if_pos (show r = (-1 : Int32) from m1)]
        rfl
      · rw [f_X12_isPlayed, x1, gA_n (by omega) (by omega), x2, gA_n (by omega) (by omega), gA_n (by omega) (by omega), t0, if_neg (show ¬ nI 9 = (4 : Int32) by decide), if_neg (show ¬ nI 9 = (5 : Int32) by decide), if_neg (show ¬ nI 9 = (6 : Int32) by decide), if_neg (show ¬ nI 9 = (7 : Int32) by decide), if_neg (show ¬ nI 9 = (8 : Int32) by decide), if_pos (show nI 9 = (9 : Int32) by decide), b1, b2, g2, ob5_s, if_pos (show r < (0 : Int32) from m2)]
        rfl
    · refine ⟨nI 1, dn, df, dr, row', fe, to, cnt', next', store', nm', stack', a', nd', values', truth', died, S', ?_, ?_, g3, g4⟩
      · rw [f_X11_perform_3, c1, ob1_s, c2, ob1_s, c0, ob1_s, if_neg (show ¬ nI 8 = (4 : Int32) by decide), if_neg (show ¬ nI 8 = (5 : Int32) by decide), if_neg (show ¬ nI 8 = (6 : Int32) by decide), if_neg (show ¬ nI 8 = (7 : Int32) by decide), if_pos (show nI 8 = (8 : Int32) by decide), g1, ob7_s, if_neg (show ¬ r = (-1 : Int32) from m1)]
        rfl
      · rw [f_X12_isPlayed, x1, gA_n (by omega) (by omega), x2, gA_n (by omega) (by omega), gA_n (by omega) (by omega), t0, if_neg (show ¬ nI 9 = (4 : Int32) by decide), if_neg (show ¬ nI 9 = (5 : Int32) by decide), if_neg (show ¬ nI 9 = (6 : Int32) by decide), if_neg (show ¬ nI 9 = (7 : Int32) by decide), if_neg (show ¬ nI 9 = (8 : Int32) by decide), if_pos (show nI 9 = (9 : Int32) by decide), b1, b2, g2, ob5_s, if_neg (show ¬ r < (0 : Int32) from m2)]
        rfl
  · subst e
    obtain ⟨a1, b1, l1⟩ := h1 (by omega)
    obtain ⟨a2, b2, l2⟩ := h2 (by omega) (by omega)
    rw [a1] at c1
    rw [a2] at c2
    have t0 : vt X = nI 10 := t0
    obtain ⟨r, row', cnt', next', store', a', died', S', g1, g2, g3, g4⟩ := st_kill hN hJ died (nI v1) (nI v2) h
    refine ⟨r, dn, df, dr, row', fe, to, cnt', next', store', nm0, stack, a', nd0, values, truth, died', S', ?_, ?_, g3, g4⟩
    · rw [f_X11_perform_3, c1, ob1_s, c2, ob1_s, c0, ob1_s, if_neg (show ¬ nI 9 = (4 : Int32) by decide), if_neg (show ¬ nI 9 = (5 : Int32) by decide), if_neg (show ¬ nI 9 = (6 : Int32) by decide), if_neg (show ¬ nI 9 = (7 : Int32) by decide), if_neg (show ¬ nI 9 = (8 : Int32) by decide), if_pos (show nI 9 = (9 : Int32) by decide), g1, ob5_s]
    · rw [f_X12_isPlayed, x1, gA_n (by omega) (by omega), x2, gA_n (by omega) (by omega), gA_n (by omega) (by omega), t0, if_neg (show ¬ nI 10 = (4 : Int32) by decide), if_neg (show ¬ nI 10 = (5 : Int32) by decide), if_neg (show ¬ nI 10 = (6 : Int32) by decide), if_neg (show ¬ nI 10 = (7 : Int32) by decide), if_neg (show ¬ nI 10 = (8 : Int32) by decide), if_neg (show ¬ nI 10 = (9 : Int32) by decide), if_pos (show nI 10 = (10 : Int32) by decide), b1, b2, g2, ob3_s]
  · subst e
    obtain ⟨a1, b1, l1⟩ := h1 (by omega)
    obtain ⟨a2, b2, l2⟩ := h2 (by omega) (by omega)
    rw [a1] at c1
    rw [a2] at c2
    have t0 : vt X = nI 11 := t0
    obtain ⟨r, row', cnt', next', store', nm', stack', a', nd', values', truth', S', g1, g2, g3, g4, g5⟩ := st_pardon (nm0 := nm0) (nd0 := nd0) (stack := stack) (truth := truth) (values := values) hN hJ hT (nI v1) (nI v2) h
    rcases ansL g5 with ⟨m1, m2⟩ | ⟨m1, m2⟩
    · refine ⟨nI 0, dn, df, dr, row', fe, to, cnt', next', store', nm', stack', a', nd', values', truth', died, S', ?_, ?_, g3, g4⟩
      · rw [f_X11_perform_3, c1, ob1_s, c2, ob1_s, c0, ob1_s, if_neg (show ¬ nI 10 = (4 : Int32) by decide), if_neg (show ¬ nI 10 = (5 : Int32) by decide), if_neg (show ¬ nI 10 = (6 : Int32) by decide), if_neg (show ¬ nI 10 = (7 : Int32) by decide), if_neg (show ¬ nI 10 = (8 : Int32) by decide), if_neg (show ¬ nI 10 = (9 : Int32) by decide), if_pos (show nI 10 = (10 : Int32) by decide), g1, ob7_s, if_pos (show r = (-1 : Int32) from m1)]
        rfl
      · rw [f_X12_isPlayed, x1, gA_n (by omega) (by omega), x2, gA_n (by omega) (by omega), gA_n (by omega) (by omega), t0, if_neg (show ¬ nI 11 = (4 : Int32) by decide), if_neg (show ¬ nI 11 = (5 : Int32) by decide), if_neg (show ¬ nI 11 = (6 : Int32) by decide), if_neg (show ¬ nI 11 = (7 : Int32) by decide), if_neg (show ¬ nI 11 = (8 : Int32) by decide), if_neg (show ¬ nI 11 = (9 : Int32) by decide), if_neg (show ¬ nI 11 = (10 : Int32) by decide), if_pos (show nI 11 = (11 : Int32) by decide), b1, b2, g2, ob5_s, if_pos (show r < (0 : Int32) from m2)]
        rfl
    · refine ⟨nI 1, dn, df, dr, row', fe, to, cnt', next', store', nm', stack', a', nd', values', truth', died, S', ?_, ?_, g3, g4⟩
      · rw [f_X11_perform_3, c1, ob1_s, c2, ob1_s, c0, ob1_s, if_neg (show ¬ nI 10 = (4 : Int32) by decide), if_neg (show ¬ nI 10 = (5 : Int32) by decide), if_neg (show ¬ nI 10 = (6 : Int32) by decide), if_neg (show ¬ nI 10 = (7 : Int32) by decide), if_neg (show ¬ nI 10 = (8 : Int32) by decide), if_neg (show ¬ nI 10 = (9 : Int32) by decide), if_pos (show nI 10 = (10 : Int32) by decide), g1, ob7_s, if_neg (show ¬ r = (-1 : Int32) from m1)]
        rfl
      · rw [f_X12_isPlayed, x1, gA_n (by omega) (by omega), x2, gA_n (by omega) (by omega), gA_n (by omega) (by omega), t0, if_neg (show ¬ nI 11 = (4 : Int32) by decide), if_neg (show ¬ nI 11 = (5 : Int32) by decide), if_neg (show ¬ nI 11 = (6 : Int32) by decide), if_neg (show ¬ nI 11 = (7 : Int32) by decide), if_neg (show ¬ nI 11 = (8 : Int32) by decide), if_neg (show ¬ nI 11 = (9 : Int32) by decide), if_neg (show ¬ nI 11 = (10 : Int32) by decide), if_pos (show nI 11 = (11 : Int32) by decide), b1, b2, g2, ob5_s, if_neg (show ¬ r < (0 : Int32) from m2)]
        rfl
  · subst e
    obtain ⟨a1, b1, l1⟩ := h1 (by omega)
    rw [a1] at c1
    have t0 : vt X = nI 4 := t0
    obtain ⟨r, dn', df', a', S', g1, g2, g3, g4, g5⟩ := st_land (N := N) (nI v1) h
    rcases ansL g5 with ⟨m1, m2⟩ | ⟨m1, m2⟩
    · refine ⟨nI 0, dn', df', dr, row, fe, to, cnt, next, store, nm0, stack, a', nd0, values, truth, died, S', ?_, ?_, g3, g4⟩
      · rw [f_X11_perform_3, c1, ob1_s, c2, ob1_s, c0, ob1_s, if_neg (show ¬ nI 11 = (4 : Int32) by decide), if_neg (show ¬ nI 11 = (5 : Int32) by decide), if_neg (show ¬ nI 11 = (6 : Int32) by decide), if_neg (show ¬ nI 11 = (7 : Int32) by decide), if_neg (show ¬ nI 11 = (8 : Int32) by decide), if_neg (show ¬ nI 11 = (9 : Int32) by decide), if_neg (show ¬ nI 11 = (10 : Int32) by decide), if_pos (show nI 11 = (11 : Int32) by decide), g1, ob3_s, if_pos (show r = (-1 : Int32) from m1)]
        rfl
      · rw [f_X12_isPlayed, x1, gA_n (by omega) (by omega), x2, gA_n (by omega) (by omega), gA_n (by omega) (by omega), t0, if_pos (show nI 4 = (4 : Int32) by decide), b1, g2, ob2_s, if_pos (show r < (0 : Int32) from m2)]
        rfl
    · refine ⟨nI 1, dn', df', dr, row, fe, to, cnt, next, store, nm0, stack, a', nd0, values, truth, died, S', ?_, ?_, g3, g4⟩
      · rw [f_X11_perform_3, c1, ob1_s, c2, ob1_s, c0, ob1_s, if_neg (show ¬ nI 11 = (4 : Int32) by decide), if_neg (show ¬ nI 11 = (5 : Int32) by decide), if_neg (show ¬ nI 11 = (6 : Int32) by decide), if_neg (show ¬ nI 11 = (7 : Int32) by decide), if_neg (show ¬ nI 11 = (8 : Int32) by decide), if_neg (show ¬ nI 11 = (9 : Int32) by decide), if_neg (show ¬ nI 11 = (10 : Int32) by decide), if_pos (show nI 11 = (11 : Int32) by decide), g1, ob3_s, if_neg (show ¬ r = (-1 : Int32) from m1)]
        rfl
      · rw [f_X12_isPlayed, x1, gA_n (by omega) (by omega), x2, gA_n (by omega) (by omega), gA_n (by omega) (by omega), t0, if_pos (show nI 4 = (4 : Int32) by decide), b1, g2, ob2_s, if_neg (show ¬ r < (0 : Int32) from m2)]
        rfl
  · subst e
    obtain ⟨a1, b1, l1⟩ := h1 (by omega)
    rw [a1] at c1
    have t0 : vt X = nI 12 := t0
    have hj := h.2.2.2.2.2.2.2.2.2
    have l60 := h12 rfl
    obtain ⟨b, d, row', cnt', next', store', nm', stack', a', nd', values', truth', S', q1, q2, g1, g2, g3, g4, g5⟩ := kPass (m := v1) hN (show j + 1 ≤ 20001 by omega) hT v1 N 0 0 row cnt next store a nm0 nd0 stack truth values S (by omega) (by omega) (by omega) (by omega) h.later (by omega) rfl
    refine ⟨nI b, dn, df, dr, row', fe, to, cnt', next', store', nm', stack', a', nd', values', truth', nI d, S', ?_, ?_, g3, g4⟩
    · have g1' : f_X11_passAll N dn df row fe cnt next store tx rul tcd tst ten ucd ust uen wcd wst wen xcd xst xen nm0 stack (nI v1) = some (nI b, row', cnt', next', store', nm', stack') := g1
      rw [f_X11_perform_3, c1, ob1_s, c2, ob1_s, c0, ob1_s, if_neg (show ¬ nI 12 = (4 : Int32) by decide), if_neg (show ¬ nI 12 = (5 : Int32) by decide), if_neg (show ¬ nI 12 = (6 : Int32) by decide), if_neg (show ¬ nI 12 = (7 : Int32) by decide), if_neg (show ¬ nI 12 = (8 : Int32) by decide), if_neg (show ¬ nI 12 = (9 : Int32) by decide), if_neg (show ¬ nI 12 = (10 : Int32) by decide), if_neg (show ¬ nI 12 = (11 : Int32) by decide), if_pos (show nI 12 = (12 : Int32) by decide), g1', ob7_s]
    · have g2' : f_X12_arePassed N a vt nd0 values truth (nI 1) died (nI v1) = some (nI b, a', nd', values', truth', nI d) := g2
      rw [f_X12_isPlayed, x1, gA_n (by omega) (by omega), x2, gA_n (by omega) (by omega), gA_n (by omega) (by omega), t0, if_neg (show ¬ nI 12 = (4 : Int32) by decide), if_neg (show ¬ nI 12 = (5 : Int32) by decide), if_neg (show ¬ nI 12 = (6 : Int32) by decide), if_neg (show ¬ nI 12 = (7 : Int32) by decide), if_neg (show ¬ nI 12 = (8 : Int32) by decide), if_neg (show ¬ nI 12 = (9 : Int32) by decide), if_neg (show ¬ nI 12 = (10 : Int32) by decide), if_neg (show ¬ nI 12 = (11 : Int32) by decide), if_pos (show nI 12 = (12 : Int32) by decide), b1, g2', ob6_s]
