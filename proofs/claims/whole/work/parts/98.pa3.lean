set_option maxHeartbeats 4000000 in
theorem pa_14 {K : Nat → Int32} {N t : Nat} {σ0 σ : Sto} {x : Int32} (hT : TKC K N σ0) (hF : JF σ0 σ) (hJ : JS K σ t) (h7 : σ.1 7 = 14) (hs : cS (tr K t) = 14) (ht : t < N) (hx : SK x (K t)) : PaR K σ0 t (cdisp σ (nI t) x) := by
  have hN := hT.1
  obtain ⟨j6, jo, j9, j4, j8, jr, ja, jt, jc⟩ := hJ
  have ha : cS (tr K t) ≠ 0 := by rw [hs]; decide
  obtain ⟨x1, x2, x3, x4, x5, x6, x7, x8, x40, x41, x43, x44, x46, x59, x61, x123, x125⟩ := hx
  have rt : inR (nI t) 121 := q_inR (by omega) (by omega)
  have rtn : (nI t).toNatClampNeg = t := q_tn (by omega)
  obtain ⟨w1, w2, w3, w4, w5, w6, w7, w8, w9⟩ := WF_all t ha
  obtain ⟨g1, g2, g3, g4, g5⟩ := WG_all t ha
  rw [hs] at j9 j8 w2 w3 w5 w6 w7 w8 w9 g1 g2 g3 g4 g5
  unfold PaR
  have d0 := w2 (by decide)
  have e2 : σ.1 2 = nI N := (hF.1 2 (by decide) (by decide) (by decide) (by decide) (by decide) (by decide) (by decide)).trans hT.2.1
  have e6 : ∀ u, σ.2.1 6 u = σ0.2.1 6 u := fun u => by rw [hF.2.1 6 (by decide) (by decide) (by decide) (by decide) (by decide) (by decide) (by decide) (by decide)]
  by_cases k125 : K t = 125
  · skip
    have hS : cS (tr K (t + 1)) = 6 := by simp +decide only [trS, nxt, opr, tal, hs, k125, false_and, and_false, true_and, and_true, if_true, if_false]
    refine ⟨sS σ 9 0, ?_, by (repeat first | exact hF | apply JF.S | apply JF.A) <;> decide, fun _ => ⟨?_, ?_, ?_, ?_, ?_, ?_, ?_, ?_, ?_⟩⟩
    · rw [hS]; simp +decide only [hs, k125, cdisp, h7, p_Parser_nextInClass, p_Parser_nextInHead, p_Parser_nextInBody, p_Parser_nextInExpression, p_Parser_only, p_Parser_className, p_Outline_addClass, p_Parser_name, p_Parser_assign, p_Parser_typeName, p_Parser_memberTail, p_Parser_operand, p_Parser_open, p_Parser_tail, p_Parser_close, p_Parser_equalsSign, p_Parser_statement, p_Parser_statement_b37, p_Parser_statement_b38, p_Parser_firstArgument, p_Parser_countArgument, p_Parser_countArgument_b22, p_Parser_openArguments, x1, x2, x3, x4, x5, x6, x7, x8, x40, x41, x43, x44, x46, x59, x61, x123, x125, q_bd1, q_bd2, if_pos rt, rtn, q_S1, q_A1, nI_1, if_true, if_false]
    · rw [trD]; simp [dpt, hs, k125, j6, q_S1, q_A1]
    · intro j hj; rw [trD] at hj; rw [trO]; simp [dpt, opn, hs, k125] at hj ⊢; first | exact jo j hj | (simp [q_S2, q_A2]; exact jo j hj)
    · intro z; rw [hS] at z; exact absurd z (by decide)
    · rw [trC]; simp [hs, q_S1, q_A1, j4]
    · intro z; rw [hS] at z; exact absurd z (by decide)
    · exact jr_0 jr ha (fun z => by simp [hs, k125] at z) (by simp [rbT, rb, oprR, talR, hs, k125]) (fun u => by simp [q_S2, q_A2])
    · exact ja_1 ja (fun u => by simp [q_S2, q_A2]) (fun y z => by simp [cnt, hs, k125] at z)
    · exact jt_1 jt (fun u => by simp [q_S2, q_A2]) (by rw [hs]; decide)
    · exact jc_1 jc (fun u => by simp [q_S2, q_A2]) (by rw [hs]; decide)
  by_cases k3 : K t = 3
  · skip
    have hS : cS (tr K (t + 1)) = 15 := by simp +decide only [trS, nxt, opr, tal, hs, k3, false_and, and_false, true_and, and_true, if_true, if_false]
    refine ⟨sS σ 9 0, ?_, by (repeat first | exact hF | apply JF.S | apply JF.A) <;> decide, fun _ => ⟨?_, ?_, ?_, ?_, ?_, ?_, ?_, ?_, ?_⟩⟩
    · rw [hS]; simp +decide only [hs, k3, cdisp, h7, p_Parser_nextInClass, p_Parser_nextInHead, p_Parser_nextInBody, p_Parser_nextInExpression, p_Parser_only, p_Parser_className, p_Outline_addClass, p_Parser_name, p_Parser_assign, p_Parser_typeName, p_Parser_memberTail, p_Parser_operand, p_Parser_open, p_Parser_tail, p_Parser_close, p_Parser_equalsSign, p_Parser_statement, p_Parser_statement_b37, p_Parser_statement_b38, p_Parser_firstArgument, p_Parser_countArgument, p_Parser_countArgument_b22, p_Parser_openArguments, x1, x2, x3, x4, x5, x6, x7, x8, x40, x41, x43, x44, x46, x59, x61, x123, x125, q_bd1, q_bd2, if_pos rt, rtn, q_S1, q_A1, nI_1, if_true, if_false]
    · rw [trD]; simp [dpt, hs, k3, j6, q_S1, q_A1]
    · intro j hj; rw [trD] at hj; rw [trO]; simp [dpt, opn, hs, k3] at hj ⊢; first | exact jo j hj | (simp [q_S2, q_A2]; exact jo j hj)
    · intro _; rw [trE]; simp [eqm, hs, k3, q_S1, q_A1, b01]
    · rw [trC]; simp [hs, q_S1, q_A1, j4]
    · intro _; rw [trM]; simp [hs, q_S1, q_A1]; exact j8 (by decide)
    · exact jr_0 jr ha (fun z => by simp [hs, k3] at z) (by simp [rbT, rb, oprR, talR, hs, k3]) (fun u => by simp [q_S2, q_A2])
    · exact ja_1 ja (fun u => by simp [q_S2, q_A2]) (fun y z => by simp [cnt, hs, k3] at z)
    · exact jt_1 jt (fun u => by simp [q_S2, q_A2]) (by rw [hs]; decide)
    · exact jc_1 jc (fun u => by simp [q_S2, q_A2]) (by rw [hs]; decide)
  by_cases k1 : K t = 1
  · skip
    by_cases kk : K (t + 1) = 1
    · have hlt : t + 1 < N := Decidable.byContradiction (fun z => by rw [hT.2.2.2 (t + 1) (by omega)] at kk; exact absurd kk (by decide))
      have hsz : ¬ nI N ≤ nI (t + 1) := fun z => by have := (q_le (by omega) (by omega)).mp z; omega
      have r1 : inR (nI (t + 1)) 121 := q_inR (by omega) (by omega)
      have r1n : (nI (t + 1)).toNatClampNeg = t + 1 := q_tn (by omega)
      have s1 : σ.2.1 6 (t + 1) = 1 := by rw [e6]; exact (hT.2.2.1 (t + 1) hlt).1.mpr kk
      have hS : cS (tr K (t + 1)) = 15 := by simp +decide only [trS, nxt, opr, tal, hs, k1, kk, false_and, and_false, true_and, and_true, if_true, if_false, p_Parser_statement, e2, if_neg hsz, if_pos r1, r1n, s1]
      refine ⟨sA (sS σ 9 0) 9 t 7, ?_, by (repeat first | exact hF | apply JF.S | apply JF.A) <;> decide, fun _ => ⟨?_, ?_, ?_, ?_, ?_, ?_, ?_, ?_, ?_⟩⟩
      · rw [hS]; simp +decide only [hs, k1, kk, cdisp, h7, p_Parser_nextInClass, p_Parser_nextInHead, p_Parser_nextInBody, p_Parser_nextInExpression, p_Parser_only, p_Parser_className, p_Outline_addClass, p_Parser_name, p_Parser_assign, p_Parser_typeName, p_Parser_memberTail, p_Parser_operand, p_Parser_open, p_Parser_tail, p_Parser_close, p_Parser_equalsSign, p_Parser_statement, p_Parser_statement_b37, p_Parser_statement_b38, p_Parser_firstArgument, p_Parser_countArgument, p_Parser_countArgument_b22, p_Parser_openArguments, x1, x2, x3, x4, x5, x6, x7, x8, x40, x41, x43, x44, x46, x59, x61, x123, x125, q_bd1, q_bd2, if_pos rt, rtn, q_S1, q_A1, nI_1, if_true, if_false, p_Parser_statement, e2, if_neg hsz, if_pos r1, r1n, s1]
      · rw [trD]; simp [dpt, hs, k1, kk, j6, q_S1, q_A1, p_Parser_statement, e2, if_neg hsz, if_pos r1, r1n, s1]
      · intro j hj; rw [trD] at hj; rw [trO]; simp [dpt, opn, hs, k1, kk, p_Parser_statement, e2, if_neg hsz, if_pos r1, r1n, s1] at hj ⊢; first | exact jo j hj | (simp [q_S2, q_A2]; exact jo j hj)
      · intro _; rw [trE]; simp [eqm, hs, k1, kk, q_S1, q_A1, b01, p_Parser_statement, e2, if_neg hsz, if_pos r1, r1n, s1]
      · rw [trC]; simp [hs, q_S1, q_A1, j4]
      · intro _; rw [trM]; simp [hs, q_S1, q_A1]; exact j8 (by decide)
      · refine jr_1 jr ha (fun z => by simp [hs, k1, kk] at z) (fun u => ?_); simp [rbT, rb, oprR, talR, hs, k1, kk, q_S2, q_A2, p_Parser_statement, e2, if_neg hsz, if_pos r1, r1n, s1]
      · exact ja_1 ja (fun u => by simp [q_S2, q_A2]) (fun y z => by simp [cnt, hs, k1, kk] at z)
      · exact jt_1 jt (fun u => by simp [q_S2, q_A2]) (by rw [hs]; decide)
      · exact jc_1 jc (fun u => by simp [q_S2, q_A2]) (by rw [hs]; decide)
    · have hst : p_Parser_statement σ (nI t) x = p_Parser_statement_b37 (nI t) x σ := by
        unfold p_Parser_statement
        rw [if_pos (x1.mpr k1), e2, nI_1]
        by_cases hlt : t + 1 < N
        · have hsz : ¬ nI N ≤ nI (t + 1) := fun z => by have := (q_le (by omega) (by omega)).mp z; omega
          rw [if_neg hsz, if_pos (q_inR (by omega) (by omega)), q_tn (by omega), e6, if_neg (fun z => kk ((hT.2.2.1 (t + 1) hlt).1.mp z))]
        · rw [if_pos ((q_le (by omega) (by omega)).mpr (by omega))]
      have hS : cS (tr K (t + 1)) = 20 := by simp +decide only [trS, nxt, opr, tal, hs, k1, kk, false_and, and_false, true_and, and_true, if_true, if_false, hst]
      refine ⟨sA (sS (sS σ 9 0) 9 1) 9 t 9, ?_, by (repeat first | exact hF | apply JF.S | apply JF.A) <;> decide, fun _ => ⟨?_, ?_, ?_, ?_, ?_, ?_, ?_, ?_, ?_⟩⟩
      · rw [hS]; simp +decide only [hs, k1, kk, cdisp, h7, p_Parser_nextInClass, p_Parser_nextInHead, p_Parser_nextInBody, p_Parser_nextInExpression, p_Parser_only, p_Parser_className, p_Outline_addClass, p_Parser_name, p_Parser_assign, p_Parser_typeName, p_Parser_memberTail, p_Parser_operand, p_Parser_open, p_Parser_tail, p_Parser_close, p_Parser_equalsSign, p_Parser_statement_b37, p_Parser_statement_b38, p_Parser_firstArgument, p_Parser_countArgument, p_Parser_countArgument_b22, p_Parser_openArguments, x1, x2, x3, x4, x5, x6, x7, x8, x40, x41, x43, x44, x46, x59, x61, x123, x125, q_bd1, q_bd2, if_pos rt, rtn, q_S1, q_A1, nI_1, if_true, if_false, hst]
      · rw [trD]; simp [dpt, hs, k1, kk, j6, q_S1, q_A1, hst]
      · intro j hj; rw [trD] at hj; rw [trO]; simp [dpt, opn, hs, k1, kk, hst] at hj ⊢; first | exact jo j hj | (simp [q_S2, q_A2]; exact jo j hj)
      · intro _; rw [trE]; simp [eqm, hs, k1, kk, q_S1, q_A1, b01, hst]
      · rw [trC]; simp [hs, q_S1, q_A1, j4]
      · intro _; rw [trM]; simp [hs, q_S1, q_A1]; exact j8 (by decide)
      · refine jr_1 jr ha (fun z => by simp [hs, k1, kk] at z) (fun u => ?_); simp [rbT, rb, oprR, talR, hs, k1, kk, q_S2, q_A2, hst]
      · exact ja_1 ja (fun u => by simp [q_S2, q_A2]) (fun y z => by simp [cnt, hs, k1, kk] at z)
      · exact jt_1 jt (fun u => by simp [q_S2, q_A2]) (by rw [hs]; decide)
      · exact jc_1 jc (fun u => by simp [q_S2, q_A2]) (by rw [hs]; decide)
  by_cases k6 : K t = 6
  · skip
    have hS : cS (tr K (t + 1)) = 17 := by simp +decide only [trS, nxt, opr, tal, hs, k6, false_and, and_false, true_and, and_true, if_true, if_false]
    refine ⟨sA (sS σ 9 0) 9 t 16, ?_, by (repeat first | exact hF | apply JF.S | apply JF.A) <;> decide, fun _ => ⟨?_, ?_, ?_, ?_, ?_, ?_, ?_, ?_, ?_⟩⟩
    · rw [hS]; simp +decide only [hs, k6, cdisp, h7, p_Parser_nextInClass, p_Parser_nextInHead, p_Parser_nextInBody, p_Parser_nextInExpression, p_Parser_only, p_Parser_className, p_Outline_addClass, p_Parser_name, p_Parser_assign, p_Parser_typeName, p_Parser_memberTail, p_Parser_operand, p_Parser_open, p_Parser_tail, p_Parser_close, p_Parser_equalsSign, p_Parser_statement, p_Parser_statement_b37, p_Parser_statement_b38, p_Parser_firstArgument, p_Parser_countArgument, p_Parser_countArgument_b22, p_Parser_openArguments, x1, x2, x3, x4, x5, x6, x7, x8, x40, x41, x43, x44, x46, x59, x61, x123, x125, q_bd1, q_bd2, if_pos rt, rtn, q_S1, q_A1, nI_1, if_true, if_false]
    · rw [trD]; simp [dpt, hs, k6, j6, q_S1, q_A1]
    · intro j hj; rw [trD] at hj; rw [trO]; simp [dpt, opn, hs, k6] at hj ⊢; first | exact jo j hj | (simp [q_S2, q_A2]; exact jo j hj)
    · intro _; rw [trE]; simp [eqm, hs, k6, q_S1, q_A1, b01]
    · rw [trC]; simp [hs, q_S1, q_A1, j4]
    · intro _; rw [trM]; simp [hs, q_S1, q_A1]; exact j8 (by decide)
    · refine jr_1 jr ha (fun z => by simp [hs, k6] at z) (fun u => ?_); simp [rbT, rb, oprR, talR, hs, k6, q_S2, q_A2]
    · exact ja_1 ja (fun u => by simp [q_S2, q_A2]) (fun y z => by simp [cnt, hs, k6] at z)
    · exact jt_1 jt (fun u => by simp [q_S2, q_A2]) (by rw [hs]; decide)
    · exact jc_1 jc (fun u => by simp [q_S2, q_A2]) (by rw [hs]; decide)
  by_cases k2 : K t = 2
  · skip
    have hS : cS (tr K (t + 1)) = 22 := by simp +decide only [trS, nxt, opr, tal, hs, k2, false_and, and_false, true_and, and_true, if_true, if_false]
    refine ⟨sA (sS (sS σ 9 0) 9 1) 9 t 13, ?_, by (repeat first | exact hF | apply JF.S | apply JF.A) <;> decide, fun _ => ⟨?_, ?_, ?_, ?_, ?_, ?_, ?_, ?_, ?_⟩⟩
    · rw [hS]; simp +decide only [hs, k2, cdisp, h7, p_Parser_nextInClass, p_Parser_nextInHead, p_Parser_nextInBody, p_Parser_nextInExpression, p_Parser_only, p_Parser_className, p_Outline_addClass, p_Parser_name, p_Parser_assign, p_Parser_typeName, p_Parser_memberTail, p_Parser_operand, p_Parser_open, p_Parser_tail, p_Parser_close, p_Parser_equalsSign, p_Parser_statement, p_Parser_statement_b37, p_Parser_statement_b38, p_Parser_firstArgument, p_Parser_countArgument, p_Parser_countArgument_b22, p_Parser_openArguments, x1, x2, x3, x4, x5, x6, x7, x8, x40, x41, x43, x44, x46, x59, x61, x123, x125, q_bd1, q_bd2, if_pos rt, rtn, q_S1, q_A1, nI_1, if_true, if_false]
    · rw [trD]; simp [dpt, hs, k2, j6, q_S1, q_A1]
    · intro j hj; rw [trD] at hj; rw [trO]; simp [dpt, opn, hs, k2] at hj ⊢; first | exact jo j hj | (simp [q_S2, q_A2]; exact jo j hj)
    · intro _; rw [trE]; simp [eqm, hs, k2, q_S1, q_A1, b01]
    · rw [trC]; simp [hs, q_S1, q_A1, j4]
    · intro _; rw [trM]; simp [hs, q_S1, q_A1]; exact j8 (by decide)
    · refine jr_1 jr ha (fun z => by simp [hs, k2] at z) (fun u => ?_); simp [rbT, rb, oprR, talR, hs, k2, q_S2, q_A2]
    · exact ja_1 ja (fun u => by simp [q_S2, q_A2]) (fun y z => by simp [cnt, hs, k2] at z)
    · exact jt_1 jt (fun u => by simp [q_S2, q_A2]) (by rw [hs]; decide)
    · exact jc_1 jc (fun u => by simp [q_S2, q_A2]) (by rw [hs]; decide)
  by_cases k7 : K t = 7
  · skip
    have hS : cS (tr K (t + 1)) = 18 := by simp +decide only [trS, nxt, opr, tal, hs, k7, false_and, and_false, true_and, and_true, if_true, if_false]
    refine ⟨sS (sS σ 9 0) 9 1, ?_, by (repeat first | exact hF | apply JF.S | apply JF.A) <;> decide, fun _ => ⟨?_, ?_, ?_, ?_, ?_, ?_, ?_, ?_, ?_⟩⟩
    · rw [hS]; simp +decide only [hs, k7, cdisp, h7, p_Parser_nextInClass, p_Parser_nextInHead, p_Parser_nextInBody, p_Parser_nextInExpression, p_Parser_only, p_Parser_className, p_Outline_addClass, p_Parser_name, p_Parser_assign, p_Parser_typeName, p_Parser_memberTail, p_Parser_operand, p_Parser_open, p_Parser_tail, p_Parser_close, p_Parser_equalsSign, p_Parser_statement, p_Parser_statement_b37, p_Parser_statement_b38, p_Parser_firstArgument, p_Parser_countArgument, p_Parser_countArgument_b22, p_Parser_openArguments, x1, x2, x3, x4, x5, x6, x7, x8, x40, x41, x43, x44, x46, x59, x61, x123, x125, q_bd1, q_bd2, if_pos rt, rtn, q_S1, q_A1, nI_1, if_true, if_false]
    · rw [trD]; simp [dpt, hs, k7, j6, q_S1, q_A1]
    · intro j hj; rw [trD] at hj; rw [trO]; simp [dpt, opn, hs, k7] at hj ⊢; first | exact jo j hj | (simp [q_S2, q_A2]; exact jo j hj)
    · intro _; rw [trE]; simp [eqm, hs, k7, q_S1, q_A1, b01]
    · rw [trC]; simp [hs, q_S1, q_A1, j4]
    · intro _; rw [trM]; simp [hs, q_S1, q_A1]; exact j8 (by decide)
    · exact jr_0 jr ha (fun z => by simp [hs, k7] at z) (by simp [rbT, rb, oprR, talR, hs, k7]) (fun u => by simp [q_S2, q_A2])
    · exact ja_1 ja (fun u => by simp [q_S2, q_A2]) (fun y z => by simp [cnt, hs, k7] at z)
    · exact jt_1 jt (fun u => by simp [q_S2, q_A2]) (by rw [hs]; decide)
    · exact jc_1 jc (fun u => by simp [q_S2, q_A2]) (by rw [hs]; decide)
  by_cases k8 : K t = 8
  · skip
    have hS : cS (tr K (t + 1)) = 22 := by simp +decide only [trS, nxt, opr, tal, hs, k8, false_and, and_false, true_and, and_true, if_true, if_false]
    refine ⟨sA (sS (sS σ 9 0) 9 1) 9 t 14, ?_, by (repeat first | exact hF | apply JF.S | apply JF.A) <;> decide, fun _ => ⟨?_, ?_, ?_, ?_, ?_, ?_, ?_, ?_, ?_⟩⟩
    · rw [hS]; simp +decide only [hs, k8, cdisp, h7, p_Parser_nextInClass, p_Parser_nextInHead, p_Parser_nextInBody, p_Parser_nextInExpression, p_Parser_only, p_Parser_className, p_Outline_addClass, p_Parser_name, p_Parser_assign, p_Parser_typeName, p_Parser_memberTail, p_Parser_operand, p_Parser_open, p_Parser_tail, p_Parser_close, p_Parser_equalsSign, p_Parser_statement, p_Parser_statement_b37, p_Parser_statement_b38, p_Parser_firstArgument, p_Parser_countArgument, p_Parser_countArgument_b22, p_Parser_openArguments, x1, x2, x3, x4, x5, x6, x7, x8, x40, x41, x43, x44, x46, x59, x61, x123, x125, q_bd1, q_bd2, if_pos rt, rtn, q_S1, q_A1, nI_1, if_true, if_false]
    · rw [trD]; simp [dpt, hs, k8, j6, q_S1, q_A1]
    · intro j hj; rw [trD] at hj; rw [trO]; simp [dpt, opn, hs, k8] at hj ⊢; first | exact jo j hj | (simp [q_S2, q_A2]; exact jo j hj)
    · intro _; rw [trE]; simp [eqm, hs, k8, q_S1, q_A1, b01]
    · rw [trC]; simp [hs, q_S1, q_A1, j4]
    · intro _; rw [trM]; simp [hs, q_S1, q_A1]; exact j8 (by decide)
    · refine jr_1 jr ha (fun z => by simp [hs, k8] at z) (fun u => ?_); simp [rbT, rb, oprR, talR, hs, k8, q_S2, q_A2]
    · exact ja_1 ja (fun u => by simp [q_S2, q_A2]) (fun y z => by simp [cnt, hs, k8] at z)
    · exact jt_1 jt (fun u => by simp [q_S2, q_A2]) (by rw [hs]; decide)
    · exact jc_1 jc (fun u => by simp [q_S2, q_A2]) (by rw [hs]; decide)
  by_cases k40 : K t = 40
  · skip
    have hd8 : nI (cD (tr K t)) < 8 := (q_ltL (by omega) (by decide)).mpr (by omega)
    have r8 : inR (nI (cD (tr K t))) 8 := q_inR (by omega) (by omega)
    have dtn : (nI (cD (tr K t))).toNatClampNeg = cD (tr K t) := q_tn (by omega)
    have hd : cD (tr K t) < 8 := by omega
    have hS : cS (tr K (t + 1)) = 17 := by simp +decide only [trS, nxt, opr, tal, hs, k40, if_pos hd, false_and, and_false, true_and, and_true, if_true, if_false, j6, if_pos hd8, if_pos r8, dtn, q_A1]
    refine ⟨sS (sA (sA (sS (sS σ 9 0) 9 1) 9 t 21) 19 (cD (tr K t)) (-1)) 6 (nI (cD (tr K t) + 1)), ?_, by (repeat first | exact hF | apply JF.S | apply JF.A) <;> decide, fun _ => ⟨?_, ?_, ?_, ?_, ?_, ?_, ?_, ?_, ?_⟩⟩
    · rw [hS]; simp +decide only [hs, k40, if_pos hd, cdisp, h7, p_Parser_nextInClass, p_Parser_nextInHead, p_Parser_nextInBody, p_Parser_nextInExpression, p_Parser_only, p_Parser_className, p_Outline_addClass, p_Parser_name, p_Parser_assign, p_Parser_typeName, p_Parser_memberTail, p_Parser_operand, p_Parser_open, p_Parser_tail, p_Parser_close, p_Parser_equalsSign, p_Parser_statement, p_Parser_statement_b37, p_Parser_statement_b38, p_Parser_firstArgument, p_Parser_countArgument, p_Parser_countArgument_b22, p_Parser_openArguments, x1, x2, x3, x4, x5, x6, x7, x8, x40, x41, x43, x44, x46, x59, x61, x123, x125, q_bd1, q_bd2, if_pos rt, rtn, q_S1, q_A1, nI_1, if_true, if_false, j6, if_pos hd8, if_pos r8, dtn, q_A1]
    · rw [trD]; simp [dpt, hs, k40, q_S1]
    · intro j hj; rw [trD] at hj; rw [trO]; simp [dpt, opn, hs, k40] at hj ⊢; simp [q_S2, q_A2]; exact jo_open jo j hj
    · intro _; rw [trE]; simp [eqm, hs, k40, if_pos hd, q_S1, q_A1, b01, j6, if_pos hd8, if_pos r8, dtn, q_A1]
    · rw [trC]; simp [hs, q_S1, q_A1, j4]
    · intro _; rw [trM]; simp [hs, q_S1, q_A1]; exact j8 (by decide)
    · refine jr_1 jr ha (fun z => by simp [hs, k40, if_pos hd] at z) (fun u => ?_); simp [rbT, rb, oprR, talR, hs, k40, if_pos hd, q_S2, q_A2, j6, if_pos hd8, if_pos r8, dtn, q_A1]
    · exact ja_1 ja (fun u => by simp [q_S2, q_A2]) (fun y z => by simp [cnt, hs, k40, if_pos hd] at z)
    · exact jt_1 jt (fun u => by simp [q_S2, q_A2]) (by rw [hs]; decide)
    · exact jc_1 jc (fun u => by simp [q_S2, q_A2]) (by rw [hs]; decide)
  have hS : cS (tr K (t + 1)) = 0 := by simp +decide only [trS, nxt, opr, tal, hs, k125, k3, k1, k6, k2, k7, k8, k40, false_and, and_false, true_and, and_true, if_true, if_false]
  refine ⟨sS (sS σ 9 0) 9 1, ?_, by (repeat first | exact hF | apply JF.S | apply JF.A) <;> decide, fun z => absurd hS z⟩
  rw [hS]; simp +decide only [hs, k125, k3, k1, k6, k2, k7, k8, k40, cdisp, h7, p_Parser_nextInClass, p_Parser_nextInHead, p_Parser_nextInBody, p_Parser_nextInExpression, p_Parser_only, p_Parser_className, p_Outline_addClass, p_Parser_name, p_Parser_assign, p_Parser_typeName, p_Parser_memberTail, p_Parser_operand, p_Parser_open, p_Parser_tail, p_Parser_close, p_Parser_equalsSign, p_Parser_statement, p_Parser_statement_b37, p_Parser_statement_b38, p_Parser_firstArgument, p_Parser_countArgument, p_Parser_countArgument_b22, p_Parser_openArguments, x1, x2, x3, x4, x5, x6, x7, x8, x40, x41, x43, x44, x46, x59, x61, x123, x125, q_bd1, q_bd2, if_pos rt, rtn, q_S1, q_A1, nI_1, if_true, if_false]
set_option maxHeartbeats 4000000 in
theorem pa_22 {K : Nat → Int32} {N t : Nat} {σ0 σ : Sto} {x : Int32} (hT : TKC K N σ0) (hF : JF σ0 σ) (hJ : JS K σ t) (h7 : σ.1 7 = 22) (hs : cS (tr K t) = 22) (ht : t < N) (hx : SK x (K t)) : PaR K σ0 t (cdisp σ (nI t) x) := by
  have hN := hT.1
  obtain ⟨j6, jo, j9, j4, j8, jr, ja, jt, jc⟩ := hJ
  have ha : cS (tr K t) ≠ 0 := by rw [hs]; decide
  obtain ⟨x1, x2, x3, x4, x5, x6, x7, x8, x40, x41, x43, x44, x46, x59, x61, x123, x125⟩ := hx
  have rt : inR (nI t) 121 := q_inR (by omega) (by omega)
  have rtn : (nI t).toNatClampNeg = t := q_tn (by omega)
  obtain ⟨w1, w2, w3, w4, w5, w6, w7, w8, w9⟩ := WF_all t ha
  obtain ⟨g1, g2, g3, g4, g5⟩ := WG_all t ha
  rw [hs] at j9 j8 w2 w3 w5 w6 w7 w8 w9 g1 g2 g3 g4 g5
  unfold PaR
  by_cases k41 : K t = 41
  · skip
    by_cases hd : cD (tr K t) = 0
    · have hd0 : nI (cD (tr K t)) = 0 := by rw [hd]; rfl
      have hS : cS (tr K (t + 1)) = 0 := by simp +decide only [trS, nxt, opr, tal, hs, k41, if_pos hd, false_and, and_false, true_and, and_true, if_true, if_false, j6, if_pos hd0]
      refine ⟨σ, ?_, by (repeat first | exact hF | apply JF.S | apply JF.A) <;> decide, fun z => absurd hS z⟩
      rw [hS]; simp +decide only [hs, k41, if_pos hd, cdisp, h7, p_Parser_nextInClass, p_Parser_nextInHead, p_Parser_nextInBody, p_Parser_nextInExpression, p_Parser_only, p_Parser_className, p_Outline_addClass, p_Parser_name, p_Parser_assign, p_Parser_typeName, p_Parser_memberTail, p_Parser_operand, p_Parser_open, p_Parser_tail, p_Parser_close, p_Parser_equalsSign, p_Parser_statement_b37, p_Parser_statement_b38, p_Parser_firstArgument, p_Parser_countArgument, p_Parser_countArgument_b22, p_Parser_openArguments, x1, x2, x3, x4, x5, x6, x7, x8, x40, x41, x43, x44, x46, x59, x61, x123, x125, q_bd1, q_bd2, if_pos rt, rtn, q_S1, q_A1, nI_1, if_true, if_false, j6, if_pos hd0]
    · skip
      have hd0 : ¬ nI (cD (tr K t)) = 0 := fun z => hd ((q_eqL (by omega) (by decide)).mp z)
      have hd1 : nI (cD (tr K t)) - 1 = nI (cD (tr K t) - 1) := q_subL (show 1 ≤ cD (tr K t) by omega)
      have hS : cS (tr K (t + 1)) = 22 := by simp +decide only [trS, nxt, opr, tal, hs, k41, if_neg hd, false_and, and_false, true_and, and_true, if_true, if_false, j6, if_neg hd0, hd1]
      refine ⟨sA (sS σ 6 (nI (cD (tr K t) - 1))) 9 t 24, ?_, by (repeat first | exact hF | apply JF.S | apply JF.A) <;> decide, fun _ => ⟨?_, ?_, ?_, ?_, ?_, ?_, ?_, ?_, ?_⟩⟩
      · rw [hS]; simp +decide only [hs, k41, if_neg hd, cdisp, h7, p_Parser_nextInClass, p_Parser_nextInHead, p_Parser_nextInBody, p_Parser_nextInExpression, p_Parser_only, p_Parser_className, p_Outline_addClass, p_Parser_name, p_Parser_assign, p_Parser_typeName, p_Parser_memberTail, p_Parser_operand, p_Parser_open, p_Parser_tail, p_Parser_close, p_Parser_equalsSign, p_Parser_statement_b37, p_Parser_statement_b38, p_Parser_firstArgument, p_Parser_countArgument, p_Parser_countArgument_b22, p_Parser_openArguments, x1, x2, x3, x4, x5, x6, x7, x8, x40, x41, x43, x44, x46, x59, x61, x123, x125, q_bd1, q_bd2, if_pos rt, rtn, q_S1, q_A1, nI_1, if_true, if_false, j6, if_neg hd0, hd1]
      · rw [trD]; simp [dpt, hs, k41, q_S1, q_A1]
      · intro j hj; rw [trD] at hj; rw [trO]; simp [dpt, opn, hs, k41] at hj ⊢; simp [q_S2, q_A2]; exact jo j (by omega)
      · intro _; rw [trE]; simp [eqm, hs, k41, q_S1, q_A1, b01]; exact j9 (by decide)
      · rw [trC]; simp [hs, q_S1, q_A1, j4]
      · intro _; rw [trM]; simp [hs, q_S1, q_A1]; exact j8 (by decide)
      · refine jr_1 jr ha (fun z => by simp [k41] at z) (fun u => ?_); simp [rbT, rb, oprR, talR, hs, k41, q_S2, q_A2]
      · exact ja_1 ja (fun u => by simp [q_S2, q_A2]) (fun y z => by simp [cnt, hs, k41] at z)
      · exact jt_1 jt (fun u => by simp [q_S2, q_A2]) (by rw [hs]; decide)
      · exact jc_1 jc (fun u => by simp [q_S2, q_A2]) (by rw [hs]; decide)
  by_cases k43 : K t = 43
  · skip
    have hS : cS (tr K (t + 1)) = 17 := by simp +decide only [trS, nxt, opr, tal, hs, k43, false_and, and_false, true_and, and_true, if_true, if_false]
    refine ⟨sA σ 9 t 20, ?_, by (repeat first | exact hF | apply JF.S | apply JF.A) <;> decide, fun _ => ⟨?_, ?_, ?_, ?_, ?_, ?_, ?_, ?_, ?_⟩⟩
    · rw [hS]; simp +decide only [hs, k43, cdisp, h7, p_Parser_nextInClass, p_Parser_nextInHead, p_Parser_nextInBody, p_Parser_nextInExpression, p_Parser_only, p_Parser_className, p_Outline_addClass, p_Parser_name, p_Parser_assign, p_Parser_typeName, p_Parser_memberTail, p_Parser_operand, p_Parser_open, p_Parser_tail, p_Parser_close, p_Parser_equalsSign, p_Parser_statement_b37, p_Parser_statement_b38, p_Parser_firstArgument, p_Parser_countArgument, p_Parser_countArgument_b22, p_Parser_openArguments, x1, x2, x3, x4, x5, x6, x7, x8, x40, x41, x43, x44, x46, x59, x61, x123, x125, q_bd1, q_bd2, if_pos rt, rtn, q_S1, q_A1, nI_1, if_true, if_false]
    · rw [trD]; simp [dpt, hs, k43, j6, q_S1, q_A1]
    · intro j hj; rw [trD] at hj; rw [trO]; simp [dpt, opn, hs, k43] at hj ⊢; first | exact jo j hj | (simp [q_S2, q_A2]; exact jo j hj)
    · intro _; rw [trE]; simp [eqm, hs, k43, q_S1, q_A1, b01]; exact j9 (by decide)
    · rw [trC]; simp [hs, q_S1, q_A1, j4]
    · intro _; rw [trM]; simp [hs, q_S1, q_A1]; exact j8 (by decide)
    · refine jr_1 jr ha (fun z => by simp [hs, k43] at z) (fun u => ?_); simp [rbT, rb, oprR, talR, hs, k43, q_S2, q_A2]
    · exact ja_1 ja (fun u => by simp [q_S2, q_A2]) (fun y z => by simp [cnt, hs, k43] at z)
    · exact jt_1 jt (fun u => by simp [q_S2, q_A2]) (by rw [hs]; decide)
    · exact jc_1 jc (fun u => by simp [q_S2, q_A2]) (by rw [hs]; decide)
  by_cases k44 : K t = 44
  · skip
    by_cases hd : cD (tr K t) = 0
    · have hd0 : nI (cD (tr K t)) = 0 := by rw [hd]; rfl
      have hc : callB (tr K t) = false := callB_f (Or.inl hd)
      have hS : cS (tr K (t + 1)) = 0 := by simp +decide only [trS, nxt, opr, tal, hs, k44, hc, false_and, and_false, true_and, and_true, if_true, if_false, j6, if_pos hd0]
      refine ⟨σ, ?_, by (repeat first | exact hF | apply JF.S | apply JF.A) <;> decide, fun z => absurd hS z⟩
      rw [hS]; simp +decide only [hs, k44, hc, cdisp, h7, p_Parser_nextInClass, p_Parser_nextInHead, p_Parser_nextInBody, p_Parser_nextInExpression, p_Parser_only, p_Parser_className, p_Outline_addClass, p_Parser_name, p_Parser_assign, p_Parser_typeName, p_Parser_memberTail, p_Parser_operand, p_Parser_open, p_Parser_tail, p_Parser_close, p_Parser_equalsSign, p_Parser_statement_b37, p_Parser_statement_b38, p_Parser_firstArgument, p_Parser_countArgument, p_Parser_countArgument_b22, p_Parser_openArguments, x1, x2, x3, x4, x5, x6, x7, x8, x40, x41, x43, x44, x46, x59, x61, x123, x125, q_bd1, q_bd2, if_pos rt, rtn, q_S1, q_A1, nI_1, if_true, if_false, j6, if_pos hd0]
    · have hd0 : ¬ nI (cD (tr K t)) = 0 := fun z => hd ((q_eqL (by omega) (by decide)).mp z)
      have hd1 : nI (cD (tr K t)) - 1 = nI (cD (tr K t) - 1) := q_subL (show 1 ≤ cD (tr K t) by omega)
      have r8 : inR (nI (cD (tr K t) - 1)) 8 := q_inR (by omega) (by omega)
      have d8 : (nI (cD (tr K t) - 1)).toNatClampNeg = cD (tr K t) - 1 := q_tn (by omega)
      have jo1 := jo (cD (tr K t) - 1) (by omega)
      rcases w4 (cD (tr K t) - 1) (by omega) with ho | ⟨y, hy, ho⟩
      · have hc : callB (tr K t) = false := callB_f (Or.inr ho)
        have hS : cS (tr K (t + 1)) = 0 := by simp +decide only [trS, nxt, opr, tal, hs, k44, hc, false_and, and_false, true_and, and_true, if_true, if_false, j6, if_neg hd0, hd1, if_pos r8, d8, jo1, ho]
        refine ⟨σ, ?_, by (repeat first | exact hF | apply JF.S | apply JF.A) <;> decide, fun z => absurd hS z⟩
        rw [hS]; simp +decide only [hs, k44, hc, cdisp, h7, p_Parser_nextInClass, p_Parser_nextInHead, p_Parser_nextInBody, p_Parser_nextInExpression, p_Parser_only, p_Parser_className, p_Outline_addClass, p_Parser_name, p_Parser_assign, p_Parser_typeName, p_Parser_memberTail, p_Parser_operand, p_Parser_open, p_Parser_tail, p_Parser_close, p_Parser_equalsSign, p_Parser_statement_b37, p_Parser_statement_b38, p_Parser_firstArgument, p_Parser_countArgument, p_Parser_countArgument_b22, p_Parser_openArguments, x1, x2, x3, x4, x5, x6, x7, x8, x40, x41, x43, x44, x46, x59, x61, x123, x125, q_bd1, q_bd2, if_pos rt, rtn, q_S1, q_A1, nI_1, if_true, if_false, j6, if_neg hd0, hd1, if_pos r8, d8, jo1, ho]
      · have hc : callB (tr K t) = true := callB_t (by omega) (by rw [ho]; exact q_neg (by omega))
        have hy1 : ¬ nI y = (-1 : Int32) := q_neg (by omega)
        have ry : inR (nI y) 121 := q_inR (by omega) (by omega)
        have yn : (nI y).toNatClampNeg = y := q_tn (by omega)
        have hS : cS (tr K (t + 1)) = 17 := by simp +decide only [trS, nxt, opr, tal, hs, k44, hc, false_and, and_false, true_and, and_true, if_true, if_false, j6, if_neg hd0, hd1, if_pos r8, d8, jo1, ho, if_neg hy1, if_pos ry, yn]
        refine ⟨sA (sA σ 10 y (σ.2.1 10 y + 1)) 9 t 23, ?_, by (repeat first | exact hF | apply JF.S | apply JF.A) <;> decide, fun _ => ⟨?_, ?_, ?_, ?_, ?_, ?_, ?_, ?_, ?_⟩⟩
        · rw [hS]; simp +decide only [hs, k44, hc, cdisp, h7, p_Parser_nextInClass, p_Parser_nextInHead, p_Parser_nextInBody, p_Parser_nextInExpression, p_Parser_only, p_Parser_className, p_Outline_addClass, p_Parser_name, p_Parser_assign, p_Parser_typeName, p_Parser_memberTail, p_Parser_operand, p_Parser_open, p_Parser_tail, p_Parser_close, p_Parser_equalsSign, p_Parser_statement_b37, p_Parser_statement_b38, p_Parser_firstArgument, p_Parser_countArgument, p_Parser_countArgument_b22, p_Parser_openArguments, x1, x2, x3, x4, x5, x6, x7, x8, x40, x41, x43, x44, x46, x59, x61, x123, x125, q_bd1, q_bd2, if_pos rt, rtn, q_S1, q_A1, nI_1, if_true, if_false, j6, if_neg hd0, hd1, if_pos r8, d8, jo1, ho, if_neg hy1, if_pos ry, yn]
        · rw [trD]; simp [dpt, hs, k44, j6, q_A1]
        · intro j hj; rw [trD] at hj; rw [trO]; simp [dpt, opn, hs, k44] at hj ⊢; simp [q_A2]; exact jo j hj
        · intro _; rw [trE]; simp [eqm, hs, k44, q_A1]; exact j9 (by decide)
        · rw [trC]; simp [hs, q_S1, q_A1, j4]
        · intro _; rw [trM]; simp [hs, q_S1, q_A1]; exact j8 (by decide)
        · refine jr_1 jr ha (fun z => by simp [k44] at z) (fun u => ?_); simp [rbT, rb, oprR, talR, hs, k44, q_A2]
        · exact ja_2 (x := y) ja (fun u => by rw [q_A2, if_neg (by decide), q_A2, if_pos rfl]; by_cases e : u = y; (rw [if_pos e, if_pos e, e]); (rw [if_neg e, if_neg e])) (fun z hz => by simp only [cnt, hs, k44, hc, ho]; rw [q_eq (by omega) (by omega)]; simp +decide [hz]; exact eq_comm) (by omega)
        · exact jt_1 jt (fun u => by simp [q_S2, q_A2]) (by rw [hs]; decide)
        · exact jc_1 jc (fun u => by simp [q_S2, q_A2]) (by rw [hs]; decide)
  by_cases k46 : K t = 46
  · skip
    have hS : cS (tr K (t + 1)) = 19 := by simp +decide only [trS, nxt, opr, tal, hs, k46, false_and, and_false, true_and, and_true, if_true, if_false]
    refine ⟨σ, ?_, by (repeat first | exact hF | apply JF.S | apply JF.A) <;> decide, fun _ => ⟨?_, ?_, ?_, ?_, ?_, ?_, ?_, ?_, ?_⟩⟩
    · rw [hS]; simp +decide only [hs, k46, cdisp, h7, p_Parser_nextInClass, p_Parser_nextInHead, p_Parser_nextInBody, p_Parser_nextInExpression, p_Parser_only, p_Parser_className, p_Outline_addClass, p_Parser_name, p_Parser_assign, p_Parser_typeName, p_Parser_memberTail, p_Parser_operand, p_Parser_open, p_Parser_tail, p_Parser_close, p_Parser_equalsSign, p_Parser_statement_b37, p_Parser_statement_b38, p_Parser_firstArgument, p_Parser_countArgument, p_Parser_countArgument_b22, p_Parser_openArguments, x1, x2, x3, x4, x5, x6, x7, x8, x40, x41, x43, x44, x46, x59, x61, x123, x125, q_bd1, q_bd2, if_pos rt, rtn, q_S1, q_A1, nI_1, if_true, if_false]
    · rw [trD]; simp [dpt, hs, k46, j6, q_S1, q_A1]
    · intro j hj; rw [trD] at hj; rw [trO]; simp [dpt, opn, hs, k46] at hj ⊢; first | exact jo j hj | (simp [q_S2, q_A2]; exact jo j hj)
    · intro _; rw [trE]; simp [eqm, hs, k46, q_S1, q_A1, b01]; exact j9 (by decide)
    · rw [trC]; simp [hs, q_S1, q_A1, j4]
    · intro _; rw [trM]; simp [hs, q_S1, q_A1]; exact j8 (by decide)
    · exact jr_0 jr ha (fun z => by simp [hs, k46] at z) (by simp [rbT, rb, oprR, talR, hs, k46]) (fun u => by simp [q_S2, q_A2])
    · exact ja_1 ja (fun u => by simp [q_S2, q_A2]) (fun y z => by simp [cnt, hs, k46] at z)
    · exact jt_1 jt (fun u => by simp [q_S2, q_A2]) (by rw [hs]; decide)
    · exact jc_1 jc (fun u => by simp [q_S2, q_A2]) (by rw [hs]; decide)
  by_cases k59 : K t = 59
  · skip
    by_cases hd : cD (tr K t) = 0
    · have hd0 : nI (cD (tr K t)) = 0 := by rw [hd]; rfl
      have hS : cS (tr K (t + 1)) = 14 := by simp +decide only [trS, nxt, opr, tal, hs, k59, if_pos hd, false_and, and_false, true_and, and_true, if_true, if_false, j6, if_pos hd0]
      refine ⟨sA σ 9 t 19, ?_, by (repeat first | exact hF | apply JF.S | apply JF.A) <;> decide, fun _ => ⟨?_, ?_, ?_, ?_, ?_, ?_, ?_, ?_, ?_⟩⟩
      · rw [hS]; simp +decide only [hs, k59, if_pos hd, cdisp, h7, p_Parser_nextInClass, p_Parser_nextInHead, p_Parser_nextInBody, p_Parser_nextInExpression, p_Parser_only, p_Parser_className, p_Outline_addClass, p_Parser_name, p_Parser_assign, p_Parser_typeName, p_Parser_memberTail, p_Parser_operand, p_Parser_open, p_Parser_tail, p_Parser_close, p_Parser_equalsSign, p_Parser_statement_b37, p_Parser_statement_b38, p_Parser_firstArgument, p_Parser_countArgument, p_Parser_countArgument_b22, p_Parser_openArguments, x1, x2, x3, x4, x5, x6, x7, x8, x40, x41, x43, x44, x46, x59, x61, x123, x125, q_bd1, q_bd2, if_pos rt, rtn, q_S1, q_A1, nI_1, if_true, if_false, j6, if_pos hd0]
      · rw [trD]; simp [dpt, hs, k59, j6, q_A1]
      · intro j hj; rw [trD] at hj; rw [trO]; simp [dpt, opn, hs, k59] at hj ⊢; simp [q_A2]; exact jo j hj
      · intro z; rw [hS] at z; exact absurd z (by decide)
      · rw [trC]; simp [hs, q_S1, q_A1, j4]
      · intro _; rw [trM]; simp [hs, q_S1, q_A1]; exact j8 (by decide)
      · refine jr_1 jr ha (fun z => by simp [k59] at z) (fun u => ?_); simp [rbT, rb, oprR, talR, hs, k59, q_A2]
      · exact ja_1 ja (fun u => by simp [q_S2, q_A2]) (fun y z => by simp [cnt, hs, k59] at z)
      · exact jt_1 jt (fun u => by simp [q_S2, q_A2]) (by rw [hs]; decide)
      · exact jc_1 jc (fun u => by simp [q_S2, q_A2]) (by rw [hs]; decide)
    · have hd0 : ¬ nI (cD (tr K t)) = 0 := fun z => hd ((q_eqL (by omega) (by decide)).mp z)
      have hS : cS (tr K (t + 1)) = 0 := by simp +decide only [trS, nxt, opr, tal, hs, k59, if_neg hd, false_and, and_false, true_and, and_true, if_true, if_false, j6, if_neg hd0]
      refine ⟨σ, ?_, by (repeat first | exact hF | apply JF.S | apply JF.A) <;> decide, fun z => absurd hS z⟩
      rw [hS]; simp +decide only [hs, k59, if_neg hd, cdisp, h7, p_Parser_nextInClass, p_Parser_nextInHead, p_Parser_nextInBody, p_Parser_nextInExpression, p_Parser_only, p_Parser_className, p_Outline_addClass, p_Parser_name, p_Parser_assign, p_Parser_typeName, p_Parser_memberTail, p_Parser_operand, p_Parser_open, p_Parser_tail, p_Parser_close, p_Parser_equalsSign, p_Parser_statement_b37, p_Parser_statement_b38, p_Parser_firstArgument, p_Parser_countArgument, p_Parser_countArgument_b22, p_Parser_openArguments, x1, x2, x3, x4, x5, x6, x7, x8, x40, x41, x43, x44, x46, x59, x61, x123, x125, q_bd1, q_bd2, if_pos rt, rtn, q_S1, q_A1, nI_1, if_true, if_false, j6, if_neg hd0]
  by_cases k61 : K t = 61
  · skip
    by_cases hd : cD (tr K t) = 0
    · have hd0 : nI (cD (tr K t)) = 0 := by rw [hd]; rfl
      have h9 := j9 (by decide)
      cases he : cE (tr K t)
      · rw [he] at h9
        have h90 : σ.1 9 = 0 := h9
        have hS : cS (tr K (t + 1)) = 0 := by simp +decide only [trS, nxt, opr, tal, hs, k61, if_pos hd, he, false_and, and_false, true_and, and_true, if_true, if_false, j6, if_pos hd0, h90]
        refine ⟨σ, ?_, by (repeat first | exact hF | apply JF.S | apply JF.A) <;> decide, fun z => absurd hS z⟩
        rw [hS]; simp +decide only [hs, k61, if_pos hd, he, cdisp, h7, p_Parser_nextInClass, p_Parser_nextInHead, p_Parser_nextInBody, p_Parser_nextInExpression, p_Parser_only, p_Parser_className, p_Outline_addClass, p_Parser_name, p_Parser_assign, p_Parser_typeName, p_Parser_memberTail, p_Parser_operand, p_Parser_open, p_Parser_tail, p_Parser_close, p_Parser_equalsSign, p_Parser_statement_b37, p_Parser_statement_b38, p_Parser_firstArgument, p_Parser_countArgument, p_Parser_countArgument_b22, p_Parser_openArguments, x1, x2, x3, x4, x5, x6, x7, x8, x40, x41, x43, x44, x46, x59, x61, x123, x125, q_bd1, q_bd2, if_pos rt, rtn, q_S1, q_A1, nI_1, if_true, if_false, j6, if_pos hd0, h90]
      · rw [he] at h9
        have h90 : σ.1 9 = 1 := h9
        have hS : cS (tr K (t + 1)) = 17 := by simp +decide only [trS, nxt, opr, tal, hs, k61, if_pos hd, he, false_and, and_false, true_and, and_true, if_true, if_false, j6, if_pos hd0, h90]
        refine ⟨sA (sS σ 9 0) 9 t 18, ?_, by (repeat first | exact hF | apply JF.S | apply JF.A) <;> decide, fun _ => ⟨?_, ?_, ?_, ?_, ?_, ?_, ?_, ?_, ?_⟩⟩
        · rw [hS]; simp +decide only [hs, k61, if_pos hd, he, cdisp, h7, p_Parser_nextInClass, p_Parser_nextInHead, p_Parser_nextInBody, p_Parser_nextInExpression, p_Parser_only, p_Parser_className, p_Outline_addClass, p_Parser_name, p_Parser_assign, p_Parser_typeName, p_Parser_memberTail, p_Parser_operand, p_Parser_open, p_Parser_tail, p_Parser_close, p_Parser_equalsSign, p_Parser_statement_b37, p_Parser_statement_b38, p_Parser_firstArgument, p_Parser_countArgument, p_Parser_countArgument_b22, p_Parser_openArguments, x1, x2, x3, x4, x5, x6, x7, x8, x40, x41, x43, x44, x46, x59, x61, x123, x125, q_bd1, q_bd2, if_pos rt, rtn, q_S1, q_A1, nI_1, if_true, if_false, j6, if_pos hd0, h90]
        · rw [trD]; simp [dpt, hs, k61, j6, q_S1, q_A1]
        · intro j hj; rw [trD] at hj; rw [trO]; simp [dpt, opn, hs, k61] at hj ⊢; simp [q_S2, q_A2]; exact jo j hj
        · intro _; rw [trE]; simp [eqm, hs, k61, q_S1, q_A1, b01]
        · rw [trC]; simp [hs, q_S1, q_A1, j4]
        · intro _; rw [trM]; simp [hs, q_S1, q_A1]; exact j8 (by decide)
        · refine jr_1 jr ha (fun z => by simp [k61] at z) (fun u => ?_); simp [rbT, rb, oprR, talR, hs, k61, q_S2, q_A2]
        · exact ja_1 ja (fun u => by simp [q_S2, q_A2]) (fun y z => by simp [cnt, hs, k61] at z)
        · exact jt_1 jt (fun u => by simp [q_S2, q_A2]) (by rw [hs]; decide)
        · exact jc_1 jc (fun u => by simp [q_S2, q_A2]) (by rw [hs]; decide)
    · have hd0 : ¬ nI (cD (tr K t)) = 0 := fun z => hd ((q_eqL (by omega) (by decide)).mp z)
      have hS : cS (tr K (t + 1)) = 0 := by simp +decide only [trS, nxt, opr, tal, hs, k61, if_neg hd, false_and, and_false, true_and, and_true, if_true, if_false, j6, if_neg hd0]
      refine ⟨σ, ?_, by (repeat first | exact hF | apply JF.S | apply JF.A) <;> decide, fun z => absurd hS z⟩
      rw [hS]; simp +decide only [hs, k61, if_neg hd, cdisp, h7, p_Parser_nextInClass, p_Parser_nextInHead, p_Parser_nextInBody, p_Parser_nextInExpression, p_Parser_only, p_Parser_className, p_Outline_addClass, p_Parser_name, p_Parser_assign, p_Parser_typeName, p_Parser_memberTail, p_Parser_operand, p_Parser_open, p_Parser_tail, p_Parser_close, p_Parser_equalsSign, p_Parser_statement_b37, p_Parser_statement_b38, p_Parser_firstArgument, p_Parser_countArgument, p_Parser_countArgument_b22, p_Parser_openArguments, x1, x2, x3, x4, x5, x6, x7, x8, x40, x41, x43, x44, x46, x59, x61, x123, x125, q_bd1, q_bd2, if_pos rt, rtn, q_S1, q_A1, nI_1, if_true, if_false, j6, if_neg hd0]
  have hS : cS (tr K (t + 1)) = 0 := by simp +decide only [trS, nxt, opr, tal, hs, k41, k43, k44, k46, k59, k61, false_and, and_false, true_and, and_true, if_true, if_false]
  refine ⟨σ, ?_, by (repeat first | exact hF | apply JF.S | apply JF.A) <;> decide, fun z => absurd hS z⟩
  rw [hS]; simp +decide only [hs, k41, k43, k44, k46, k59, k61, cdisp, h7, p_Parser_nextInClass, p_Parser_nextInHead, p_Parser_nextInBody, p_Parser_nextInExpression, p_Parser_only, p_Parser_className, p_Outline_addClass, p_Parser_name, p_Parser_assign, p_Parser_typeName, p_Parser_memberTail, p_Parser_operand, p_Parser_open, p_Parser_tail, p_Parser_close, p_Parser_equalsSign, p_Parser_statement_b37, p_Parser_statement_b38, p_Parser_firstArgument, p_Parser_countArgument, p_Parser_countArgument_b22, p_Parser_openArguments, x1, x2, x3, x4, x5, x6, x7, x8, x40, x41, x43, x44, x46, x59, x61, x123, x125, q_bd1, q_bd2, if_pos rt, rtn, q_S1, q_A1, nI_1, if_true, if_false]
set_option maxHeartbeats 4000000 in
theorem pa_20 {K : Nat → Int32} {N t : Nat} {σ0 σ : Sto} {x : Int32} (hT : TKC K N σ0) (hF : JF σ0 σ) (hJ : JS K σ t) (h7 : σ.1 7 = 20) (hs : cS (tr K t) = 20) (ht : t < N) (hx : SK x (K t)) : PaR K σ0 t (cdisp σ (nI t) x) := by
  have hN := hT.1
  obtain ⟨j6, jo, j9, j4, j8, jr, ja, jt, jc⟩ := hJ
  have ha : cS (tr K t) ≠ 0 := by rw [hs]; decide
  obtain ⟨x1, x2, x3, x4, x5, x6, x7, x8, x40, x41, x43, x44, x46, x59, x61, x123, x125⟩ := hx
  have rt : inR (nI t) 121 := q_inR (by omega) (by omega)
  have rtn : (nI t).toNatClampNeg = t := q_tn (by omega)
  obtain ⟨w1, w2, w3, w4, w5, w6, w7, w8, w9⟩ := WF_all t ha
  obtain ⟨g1, g2, g3, g4, g5⟩ := WG_all t ha
  rw [hs] at j9 j8 w2 w3 w5 w6 w7 w8 w9 g1 g2 g3 g4 g5
  unfold PaR
  by_cases k40 : K t = 40
  · skip
    have t1 : 1 ≤ t := w7 (by decide)
    have hm1 : nI t - 1 = nI (t - 1) := q_subL (show 1 ≤ t by omega)
    have z0 : (0 : Int32) ≤ nI (t - 1) := (q_Lle (by decide) (by omega)).mpr (Nat.zero_le _)
    have rm : inR (nI (t - 1)) 121 := q_inR (by omega) (by omega)
    have rmn : (nI (t - 1)).toNatClampNeg = t - 1 := q_tn (by omega)
    have jrm : σ.2.1 9 (t - 1) = rbT K (t - 1) := by rw [jr, if_neg (by omega), if_pos (by omega)]
    rcases rb20 hs t1 with r9 | r9
    · rw [r9] at jrm
      by_cases hd : cD (tr K t) < 8
      · have hd8 : nI (cD (tr K t)) < 8 := (q_ltL (by omega) (by decide)).mpr hd
        have r8 : inR (nI (cD (tr K t))) 8 := q_inR hd (by omega)
        have dtn : (nI (cD (tr K t))).toNatClampNeg = cD (tr K t) := q_tn (by omega)
        have hS : cS (tr K (t + 1)) = 21 := by simp +decide only [trS, nxt, opr, tal, hs, k40, if_pos hd, false_and, and_false, true_and, and_true, if_true, if_false, hm1, if_pos z0, if_pos rm, rmn, jrm, j6, if_pos hd8, if_pos r8, dtn, q_A1]
        refine ⟨sS (sA (sA (sA σ 9 (t - 1) 10) 9 t 22) 19 (cD (tr K t)) (nI (t - 1))) 6 (nI (cD (tr K t) + 1)), ?_, by (repeat first | exact hF | apply JF.S | apply JF.A) <;> decide, fun _ => ⟨?_, ?_, ?_, ?_, ?_, ?_, ?_, ?_, ?_⟩⟩
        · rw [hS]; simp +decide only [hs, k40, if_pos hd, cdisp, h7, p_Parser_nextInClass, p_Parser_nextInHead, p_Parser_nextInBody, p_Parser_nextInExpression, p_Parser_only, p_Parser_className, p_Outline_addClass, p_Parser_name, p_Parser_assign, p_Parser_typeName, p_Parser_memberTail, p_Parser_operand, p_Parser_open, p_Parser_tail, p_Parser_close, p_Parser_equalsSign, p_Parser_statement_b37, p_Parser_statement_b38, p_Parser_firstArgument, p_Parser_countArgument, p_Parser_countArgument_b22, p_Parser_openArguments, x1, x2, x3, x4, x5, x6, x7, x8, x40, x41, x43, x44, x46, x59, x61, x123, x125, q_bd1, q_bd2, if_pos rt, rtn, q_S1, q_A1, nI_1, if_true, if_false, hm1, if_pos z0, if_pos rm, rmn, jrm, j6, if_pos hd8, if_pos r8, dtn, q_A1]
        · rw [trD]; simp [dpt, hs, k40, q_S1]
        · intro j hj; rw [trD] at hj; rw [trO]; simp [dpt, opn, hs, k40] at hj ⊢; simp [q_S2, q_A2]; exact jo_open jo j hj
        · intro _; rw [trE]; simp [eqm, hs, k40, if_pos hd, q_S1, q_A1, b01, hm1, if_pos z0, if_pos rm, rmn, jrm, j6, if_pos hd8, if_pos r8, dtn, q_A1]; exact j9 (by decide)
        · rw [trC]; simp [hs, q_S1, q_A1, j4]
        · intro _; rw [trM]; simp [hs, q_S1, q_A1]; exact j8 (by decide)
        · refine jr_2 jr t1 (fun u => ?_); by_cases e1 : u = t; (rw [if_pos e1]; simp [rbT, rb, hs, k40, q_S2, q_A2, e1]); (rw [if_neg e1]; by_cases e2 : u = t - 1; (rw [if_pos e2, e2, ro_up t1 k40, r9]; simp +decide [upR, q_S2, q_A2]; omega); (rw [if_neg e2]; simp [q_S2, q_A2, e1, e2]))
        · exact ja_1 ja (fun u => by simp [q_S2, q_A2]) (fun y z => by simp [cnt, hs, k40, if_pos hd] at z)
        · exact jt_1 jt (fun u => by simp [q_S2, q_A2]) (by rw [hs]; decide)
        · exact jc_1 jc (fun u => by simp [q_S2, q_A2]) (by rw [hs]; decide)
      · have hd8 : ¬ nI (cD (tr K t)) < 8 := fun z => hd ((q_ltL (by omega) (by decide)).mp z)
        have hS : cS (tr K (t + 1)) = 0 := by simp +decide only [trS, nxt, opr, tal, hs, k40, if_neg hd, false_and, and_false, true_and, and_true, if_true, if_false, hm1, if_pos z0, if_pos rm, rmn, jrm, j6, if_neg hd8, q_A1]
        refine ⟨sA (sA σ 9 (t - 1) 10) 9 t 22, ?_, by (repeat first | exact hF | apply JF.S | apply JF.A) <;> decide, fun z => absurd hS z⟩
        rw [hS]; simp +decide only [hs, k40, if_neg hd, cdisp, h7, p_Parser_nextInClass, p_Parser_nextInHead, p_Parser_nextInBody, p_Parser_nextInExpression, p_Parser_only, p_Parser_className, p_Outline_addClass, p_Parser_name, p_Parser_assign, p_Parser_typeName, p_Parser_memberTail, p_Parser_operand, p_Parser_open, p_Parser_tail, p_Parser_close, p_Parser_equalsSign, p_Parser_statement_b37, p_Parser_statement_b38, p_Parser_firstArgument, p_Parser_countArgument, p_Parser_countArgument_b22, p_Parser_openArguments, x1, x2, x3, x4, x5, x6, x7, x8, x40, x41, x43, x44, x46, x59, x61, x123, x125, q_bd1, q_bd2, if_pos rt, rtn, q_S1, q_A1, nI_1, if_true, if_false, hm1, if_pos z0, if_pos rm, rmn, jrm, j6, if_neg hd8, q_A1]
    · rw [r9] at jrm
      by_cases hd : cD (tr K t) < 8
      · have hd8 : nI (cD (tr K t)) < 8 := (q_ltL (by omega) (by decide)).mpr hd
        have r8 : inR (nI (cD (tr K t))) 8 := q_inR hd (by omega)
        have dtn : (nI (cD (tr K t))).toNatClampNeg = cD (tr K t) := q_tn (by omega)
        have hS : cS (tr K (t + 1)) = 21 := by simp +decide only [trS, nxt, opr, tal, hs, k40, if_pos hd, false_and, and_false, true_and, and_true, if_true, if_false, hm1, if_pos z0, if_pos rm, rmn, jrm, j6, if_pos hd8, if_pos r8, dtn, q_A1]
        refine ⟨sS (sA (sA (sA σ 9 (t - 1) 12) 9 t 22) 19 (cD (tr K t)) (nI (t - 1))) 6 (nI (cD (tr K t) + 1)), ?_, by (repeat first | exact hF | apply JF.S | apply JF.A) <;> decide, fun _ => ⟨?_, ?_, ?_, ?_, ?_, ?_, ?_, ?_, ?_⟩⟩
        · rw [hS]; simp +decide only [hs, k40, if_pos hd, cdisp, h7, p_Parser_nextInClass, p_Parser_nextInHead, p_Parser_nextInBody, p_Parser_nextInExpression, p_Parser_only, p_Parser_className, p_Outline_addClass, p_Parser_name, p_Parser_assign, p_Parser_typeName, p_Parser_memberTail, p_Parser_operand, p_Parser_open, p_Parser_tail, p_Parser_close, p_Parser_equalsSign, p_Parser_statement_b37, p_Parser_statement_b38, p_Parser_firstArgument, p_Parser_countArgument, p_Parser_countArgument_b22, p_Parser_openArguments, x1, x2, x3, x4, x5, x6, x7, x8, x40, x41, x43, x44, x46, x59, x61, x123, x125, q_bd1, q_bd2, if_pos rt, rtn, q_S1, q_A1, nI_1, if_true, if_false, hm1, if_pos z0, if_pos rm, rmn, jrm, j6, if_pos hd8, if_pos r8, dtn, q_A1]
        · rw [trD]; simp [dpt, hs, k40, q_S1]
        · intro j hj; rw [trD] at hj; rw [trO]; simp [dpt, opn, hs, k40] at hj ⊢; simp [q_S2, q_A2]; exact jo_open jo j hj
        · intro _; rw [trE]; simp [eqm, hs, k40, if_pos hd, q_S1, q_A1, b01, hm1, if_pos z0, if_pos rm, rmn, jrm, j6, if_pos hd8, if_pos r8, dtn, q_A1]; exact j9 (by decide)
        · rw [trC]; simp [hs, q_S1, q_A1, j4]
        · intro _; rw [trM]; simp [hs, q_S1, q_A1]; exact j8 (by decide)
        · refine jr_2 jr t1 (fun u => ?_); by_cases e1 : u = t; (rw [if_pos e1]; simp [rbT, rb, hs, k40, q_S2, q_A2, e1]); (rw [if_neg e1]; by_cases e2 : u = t - 1; (rw [if_pos e2, e2, ro_up t1 k40, r9]; simp +decide [upR, q_S2, q_A2]; omega); (rw [if_neg e2]; simp [q_S2, q_A2, e1, e2]))
        · exact ja_1 ja (fun u => by simp [q_S2, q_A2]) (fun y z => by simp [cnt, hs, k40, if_pos hd] at z)
        · exact jt_1 jt (fun u => by simp [q_S2, q_A2]) (by rw [hs]; decide)
        · exact jc_1 jc (fun u => by simp [q_S2, q_A2]) (by rw [hs]; decide)
      · have hd8 : ¬ nI (cD (tr K t)) < 8 := fun z => hd ((q_ltL (by omega) (by decide)).mp z)
        have hS : cS (tr K (t + 1)) = 0 := by simp +decide only [trS, nxt, opr, tal, hs, k40, if_neg hd, false_and, and_false, true_and, and_true, if_true, if_false, hm1, if_pos z0, if_pos rm, rmn, jrm, j6, if_neg hd8, q_A1]
        refine ⟨sA (sA σ 9 (t - 1) 12) 9 t 22, ?_, by (repeat first | exact hF | apply JF.S | apply JF.A) <;> decide, fun z => absurd hS z⟩
        rw [hS]; simp +decide only [hs, k40, if_neg hd, cdisp, h7, p_Parser_nextInClass, p_Parser_nextInHead, p_Parser_nextInBody, p_Parser_nextInExpression, p_Parser_only, p_Parser_className, p_Outline_addClass, p_Parser_name, p_Parser_assign, p_Parser_typeName, p_Parser_memberTail, p_Parser_operand, p_Parser_open, p_Parser_tail, p_Parser_close, p_Parser_equalsSign, p_Parser_statement_b37, p_Parser_statement_b38, p_Parser_firstArgument, p_Parser_countArgument, p_Parser_countArgument_b22, p_Parser_openArguments, x1, x2, x3, x4, x5, x6, x7, x8, x40, x41, x43, x44, x46, x59, x61, x123, x125, q_bd1, q_bd2, if_pos rt, rtn, q_S1, q_A1, nI_1, if_true, if_false, hm1, if_pos z0, if_pos rm, rmn, jrm, j6, if_neg hd8, q_A1]
  by_cases k41 : K t = 41
  · skip
    by_cases hd : cD (tr K t) = 0
    · have hd0 : nI (cD (tr K t)) = 0 := by rw [hd]; rfl
      have hS : cS (tr K (t + 1)) = 0 := by simp +decide only [trS, nxt, opr, tal, hs, k41, if_pos hd, false_and, and_false, true_and, and_true, if_true, if_false, j6, if_pos hd0]
      refine ⟨σ, ?_, by (repeat first | exact hF | apply JF.S | apply JF.A) <;> decide, fun z => absurd hS z⟩
      rw [hS]; simp +decide only [hs, k41, if_pos hd, cdisp, h7, p_Parser_nextInClass, p_Parser_nextInHead, p_Parser_nextInBody, p_Parser_nextInExpression, p_Parser_only, p_Parser_className, p_Outline_addClass, p_Parser_name, p_Parser_assign, p_Parser_typeName, p_Parser_memberTail, p_Parser_operand, p_Parser_open, p_Parser_tail, p_Parser_close, p_Parser_equalsSign, p_Parser_statement_b37, p_Parser_statement_b38, p_Parser_firstArgument, p_Parser_countArgument, p_Parser_countArgument_b22, p_Parser_openArguments, x1, x2, x3, x4, x5, x6, x7, x8, x40, x41, x43, x44, x46, x59, x61, x123, x125, q_bd1, q_bd2, if_pos rt, rtn, q_S1, q_A1, nI_1, if_true, if_false, j6, if_pos hd0]
    · skip
      have hd0 : ¬ nI (cD (tr K t)) = 0 := fun z => hd ((q_eqL (by omega) (by decide)).mp z)
      have hd1 : nI (cD (tr K t)) - 1 = nI (cD (tr K t) - 1) := q_subL (show 1 ≤ cD (tr K t) by omega)
      have hS : cS (tr K (t + 1)) = 22 := by simp +decide only [trS, nxt, opr, tal, hs, k41, if_neg hd, false_and, and_false, true_and, and_true, if_true, if_false, j6, if_neg hd0, hd1]
      refine ⟨sA (sS σ 6 (nI (cD (tr K t) - 1))) 9 t 24, ?_, by (repeat first | exact hF | apply JF.S | apply JF.A) <;> decide, fun _ => ⟨?_, ?_, ?_, ?_, ?_, ?_, ?_, ?_, ?_⟩⟩
      · rw [hS]; simp +decide only [hs, k41, if_neg hd, cdisp, h7, p_Parser_nextInClass, p_Parser_nextInHead, p_Parser_nextInBody, p_Parser_nextInExpression, p_Parser_only, p_Parser_className, p_Outline_addClass, p_Parser_name, p_Parser_assign, p_Parser_typeName, p_Parser_memberTail, p_Parser_operand, p_Parser_open, p_Parser_tail, p_Parser_close, p_Parser_equalsSign, p_Parser_statement_b37, p_Parser_statement_b38, p_Parser_firstArgument, p_Parser_countArgument, p_Parser_countArgument_b22, p_Parser_openArguments, x1, x2, x3, x4, x5, x6, x7, x8, x40, x41, x43, x44, x46, x59, x61, x123, x125, q_bd1, q_bd2, if_pos rt, rtn, q_S1, q_A1, nI_1, if_true, if_false, j6, if_neg hd0, hd1]
      · rw [trD]; simp [dpt, hs, k41, q_S1, q_A1]
      · intro j hj; rw [trD] at hj; rw [trO]; simp [dpt, opn, hs, k41] at hj ⊢; simp [q_S2, q_A2]; exact jo j (by omega)
      · intro _; rw [trE]; simp [eqm, hs, k41, q_S1, q_A1, b01]; exact j9 (by decide)
      · rw [trC]; simp [hs, q_S1, q_A1, j4]
      · intro _; rw [trM]; simp [hs, q_S1, q_A1]; exact j8 (by decide)
      · refine jr_1 jr ha (fun z => by simp [k41] at z) (fun u => ?_); simp [rbT, rb, oprR, talR, hs, k41, q_S2, q_A2]
      · exact ja_1 ja (fun u => by simp [q_S2, q_A2]) (fun y z => by simp [cnt, hs, k41] at z)
      · exact jt_1 jt (fun u => by simp [q_S2, q_A2]) (by rw [hs]; decide)
      · exact jc_1 jc (fun u => by simp [q_S2, q_A2]) (by rw [hs]; decide)
  by_cases k43 : K t = 43
  · skip
    have hS : cS (tr K (t + 1)) = 17 := by simp +decide only [trS, nxt, opr, tal, hs, k43, false_and, and_false, true_and, and_true, if_true, if_false]
    refine ⟨sA σ 9 t 20, ?_, by (repeat first | exact hF | apply JF.S | apply JF.A) <;> decide, fun _ => ⟨?_, ?_, ?_, ?_, ?_, ?_, ?_, ?_, ?_⟩⟩
    · rw [hS]; simp +decide only [hs, k43, cdisp, h7, p_Parser_nextInClass, p_Parser_nextInHead, p_Parser_nextInBody, p_Parser_nextInExpression, p_Parser_only, p_Parser_className, p_Outline_addClass, p_Parser_name, p_Parser_assign, p_Parser_typeName, p_Parser_memberTail, p_Parser_operand, p_Parser_open, p_Parser_tail, p_Parser_close, p_Parser_equalsSign, p_Parser_statement_b37, p_Parser_statement_b38, p_Parser_firstArgument, p_Parser_countArgument, p_Parser_countArgument_b22, p_Parser_openArguments, x1, x2, x3, x4, x5, x6, x7, x8, x40, x41, x43, x44, x46, x59, x61, x123, x125, q_bd1, q_bd2, if_pos rt, rtn, q_S1, q_A1, nI_1, if_true, if_false]
    · rw [trD]; simp [dpt, hs, k43, j6, q_S1, q_A1]
    · intro j hj; rw [trD] at hj; rw [trO]; simp [dpt, opn, hs, k43] at hj ⊢; first | exact jo j hj | (simp [q_S2, q_A2]; exact jo j hj)
    · intro _; rw [trE]; simp [eqm, hs, k43, q_S1, q_A1, b01]; exact j9 (by decide)
    · rw [trC]; simp [hs, q_S1, q_A1, j4]
    · intro _; rw [trM]; simp [hs, q_S1, q_A1]; exact j8 (by decide)
    · refine jr_1 jr ha (fun z => by simp [hs, k43] at z) (fun u => ?_); simp [rbT, rb, oprR, talR, hs, k43, q_S2, q_A2]
    · exact ja_1 ja (fun u => by simp [q_S2, q_A2]) (fun y z => by simp [cnt, hs, k43] at z)
    · exact jt_1 jt (fun u => by simp [q_S2, q_A2]) (by rw [hs]; decide)
    · exact jc_1 jc (fun u => by simp [q_S2, q_A2]) (by rw [hs]; decide)
  by_cases k44 : K t = 44
  · skip
    by_cases hd : cD (tr K t) = 0
    · have hd0 : nI (cD (tr K t)) = 0 := by rw [hd]; rfl
      have hc : callB (tr K t) = false := callB_f (Or.inl hd)
      have hS : cS (tr K (t + 1)) = 0 := by simp +decide only [trS, nxt, opr, tal, hs, k44, hc, false_and, and_false, true_and, and_true, if_true, if_false, j6, if_pos hd0]
      refine ⟨σ, ?_, by (repeat first | exact hF | apply JF.S | apply JF.A) <;> decide, fun z => absurd hS z⟩
      rw [hS]; simp +decide only [hs, k44, hc, cdisp, h7, p_Parser_nextInClass, p_Parser_nextInHead, p_Parser_nextInBody, p_Parser_nextInExpression, p_Parser_only, p_Parser_className, p_Outline_addClass, p_Parser_name, p_Parser_assign, p_Parser_typeName, p_Parser_memberTail, p_Parser_operand, p_Parser_open, p_Parser_tail, p_Parser_close, p_Parser_equalsSign, p_Parser_statement_b37, p_Parser_statement_b38, p_Parser_firstArgument, p_Parser_countArgument, p_Parser_countArgument_b22, p_Parser_openArguments, x1, x2, x3, x4, x5, x6, x7, x8, x40, x41, x43, x44, x46, x59, x61, x123, x125, q_bd1, q_bd2, if_pos rt, rtn, q_S1, q_A1, nI_1, if_true, if_false, j6, if_pos hd0]
    · have hd0 : ¬ nI (cD (tr K t)) = 0 := fun z => hd ((q_eqL (by omega) (by decide)).mp z)
      have hd1 : nI (cD (tr K t)) - 1 = nI (cD (tr K t) - 1) := q_subL (show 1 ≤ cD (tr K t) by omega)
      have r8 : inR (nI (cD (tr K t) - 1)) 8 := q_inR (by omega) (by omega)
      have d8 : (nI (cD (tr K t) - 1)).toNatClampNeg = cD (tr K t) - 1 := q_tn (by omega)
      have jo1 := jo (cD (tr K t) - 1) (by omega)
      rcases w4 (cD (tr K t) - 1) (by omega) with ho | ⟨y, hy, ho⟩
      · have hc : callB (tr K t) = false := callB_f (Or.inr ho)
        have hS : cS (tr K (t + 1)) = 0 := by simp +decide only [trS, nxt, opr, tal, hs, k44, hc, false_and, and_false, true_and, and_true, if_true, if_false, j6, if_neg hd0, hd1, if_pos r8, d8, jo1, ho]
        refine ⟨σ, ?_, by (repeat first | exact hF | apply JF.S | apply JF.A) <;> decide, fun z => absurd hS z⟩
        rw [hS]; simp +decide only [hs, k44, hc, cdisp, h7, p_Parser_nextInClass, p_Parser_nextInHead, p_Parser_nextInBody, p_Parser_nextInExpression, p_Parser_only, p_Parser_className, p_Outline_addClass, p_Parser_name, p_Parser_assign, p_Parser_typeName, p_Parser_memberTail, p_Parser_operand, p_Parser_open, p_Parser_tail, p_Parser_close, p_Parser_equalsSign, p_Parser_statement_b37, p_Parser_statement_b38, p_Parser_firstArgument, p_Parser_countArgument, p_Parser_countArgument_b22, p_Parser_openArguments, x1, x2, x3, x4, x5, x6, x7, x8, x40, x41, x43, x44, x46, x59, x61, x123, x125, q_bd1, q_bd2, if_pos rt, rtn, q_S1, q_A1, nI_1, if_true, if_false, j6, if_neg hd0, hd1, if_pos r8, d8, jo1, ho]
      · have hc : callB (tr K t) = true := callB_t (by omega) (by rw [ho]; exact q_neg (by omega))
        have hy1 : ¬ nI y = (-1 : Int32) := q_neg (by omega)
        have ry : inR (nI y) 121 := q_inR (by omega) (by omega)
        have yn : (nI y).toNatClampNeg = y := q_tn (by omega)
        have hS : cS (tr K (t + 1)) = 17 := by simp +decide only [trS, nxt, opr, tal, hs, k44, hc, false_and, and_false, true_and, and_true, if_true, if_false, j6, if_neg hd0, hd1, if_pos r8, d8, jo1, ho, if_neg hy1, if_pos ry, yn]
        refine ⟨sA (sA σ 10 y (σ.2.1 10 y + 1)) 9 t 23, ?_, by (repeat first | exact hF | apply JF.S | apply JF.A) <;> decide, fun _ => ⟨?_, ?_, ?_, ?_, ?_, ?_, ?_, ?_, ?_⟩⟩
        · rw [hS]; simp +decide only [hs, k44, hc, cdisp, h7, p_Parser_nextInClass, p_Parser_nextInHead, p_Parser_nextInBody, p_Parser_nextInExpression, p_Parser_only, p_Parser_className, p_Outline_addClass, p_Parser_name, p_Parser_assign, p_Parser_typeName, p_Parser_memberTail, p_Parser_operand, p_Parser_open, p_Parser_tail, p_Parser_close, p_Parser_equalsSign, p_Parser_statement_b37, p_Parser_statement_b38, p_Parser_firstArgument, p_Parser_countArgument, p_Parser_countArgument_b22, p_Parser_openArguments, x1, x2, x3, x4, x5, x6, x7, x8, x40, x41, x43, x44, x46, x59, x61, x123, x125, q_bd1, q_bd2, if_pos rt, rtn, q_S1, q_A1, nI_1, if_true, if_false, j6, if_neg hd0, hd1, if_pos r8, d8, jo1, ho, if_neg hy1, if_pos ry, yn]
        · rw [trD]; simp [dpt, hs, k44, j6, q_A1]
        · intro j hj; rw [trD] at hj; rw [trO]; simp [dpt, opn, hs, k44] at hj ⊢; simp [q_A2]; exact jo j hj
        · intro _; rw [trE]; simp [eqm, hs, k44, q_A1]; exact j9 (by decide)
        · rw [trC]; simp [hs, q_S1, q_A1, j4]
        · intro _; rw [trM]; simp [hs, q_S1, q_A1]; exact j8 (by decide)
        · refine jr_1 jr ha (fun z => by simp [k44] at z) (fun u => ?_); simp [rbT, rb, oprR, talR, hs, k44, q_A2]
        · exact ja_2 (x := y) ja (fun u => by rw [q_A2, if_neg (by decide), q_A2, if_pos rfl]; by_cases e : u = y; (rw [if_pos e, if_pos e, e]); (rw [if_neg e, if_neg e])) (fun z hz => by simp only [cnt, hs, k44, hc, ho]; rw [q_eq (by omega) (by omega)]; simp +decide [hz]; exact eq_comm) (by omega)
        · exact jt_1 jt (fun u => by simp [q_S2, q_A2]) (by rw [hs]; decide)
        · exact jc_1 jc (fun u => by simp [q_S2, q_A2]) (by rw [hs]; decide)
  by_cases k46 : K t = 46
  · skip
    have hS : cS (tr K (t + 1)) = 19 := by simp +decide only [trS, nxt, opr, tal, hs, k46, false_and, and_false, true_and, and_true, if_true, if_false]
    refine ⟨σ, ?_, by (repeat first | exact hF | apply JF.S | apply JF.A) <;> decide, fun _ => ⟨?_, ?_, ?_, ?_, ?_, ?_, ?_, ?_, ?_⟩⟩
    · rw [hS]; simp +decide only [hs, k46, cdisp, h7, p_Parser_nextInClass, p_Parser_nextInHead, p_Parser_nextInBody, p_Parser_nextInExpression, p_Parser_only, p_Parser_className, p_Outline_addClass, p_Parser_name, p_Parser_assign, p_Parser_typeName, p_Parser_memberTail, p_Parser_operand, p_Parser_open, p_Parser_tail, p_Parser_close, p_Parser_equalsSign, p_Parser_statement_b37, p_Parser_statement_b38, p_Parser_firstArgument, p_Parser_countArgument, p_Parser_countArgument_b22, p_Parser_openArguments, x1, x2, x3, x4, x5, x6, x7, x8, x40, x41, x43, x44, x46, x59, x61, x123, x125, q_bd1, q_bd2, if_pos rt, rtn, q_S1, q_A1, nI_1, if_true, if_false]
    · rw [trD]; simp [dpt, hs, k46, j6, q_S1, q_A1]
    · intro j hj; rw [trD] at hj; rw [trO]; simp [dpt, opn, hs, k46] at hj ⊢; first | exact jo j hj | (simp [q_S2, q_A2]; exact jo j hj)
    · intro _; rw [trE]; simp [eqm, hs, k46, q_S1, q_A1, b01]; exact j9 (by decide)
    · rw [trC]; simp [hs, q_S1, q_A1, j4]
    · intro _; rw [trM]; simp [hs, q_S1, q_A1]; exact j8 (by decide)
    · exact jr_0 jr ha (fun z => by simp [hs, k46] at z) (by simp [rbT, rb, oprR, talR, hs, k46]) (fun u => by simp [q_S2, q_A2])
    · exact ja_1 ja (fun u => by simp [q_S2, q_A2]) (fun y z => by simp [cnt, hs, k46] at z)
    · exact jt_1 jt (fun u => by simp [q_S2, q_A2]) (by rw [hs]; decide)
    · exact jc_1 jc (fun u => by simp [q_S2, q_A2]) (by rw [hs]; decide)
  by_cases k59 : K t = 59
  · skip
    by_cases hd : cD (tr K t) = 0
    · have hd0 : nI (cD (tr K t)) = 0 := by rw [hd]; rfl
      have hS : cS (tr K (t + 1)) = 14 := by simp +decide only [trS, nxt, opr, tal, hs, k59, if_pos hd, false_and, and_false, true_and, and_true, if_true, if_false, j6, if_pos hd0]
      refine ⟨sA σ 9 t 19, ?_, by (repeat first | exact hF | apply JF.S | apply JF.A) <;> decide, fun _ => ⟨?_, ?_, ?_, ?_, ?_, ?_, ?_, ?_, ?_⟩⟩
      · rw [hS]; simp +decide only [hs, k59, if_pos hd, cdisp, h7, p_Parser_nextInClass, p_Parser_nextInHead, p_Parser_nextInBody, p_Parser_nextInExpression, p_Parser_only, p_Parser_className, p_Outline_addClass, p_Parser_name, p_Parser_assign, p_Parser_typeName, p_Parser_memberTail, p_Parser_operand, p_Parser_open, p_Parser_tail, p_Parser_close, p_Parser_equalsSign, p_Parser_statement_b37, p_Parser_statement_b38, p_Parser_firstArgument, p_Parser_countArgument, p_Parser_countArgument_b22, p_Parser_openArguments, x1, x2, x3, x4, x5, x6, x7, x8, x40, x41, x43, x44, x46, x59, x61, x123, x125, q_bd1, q_bd2, if_pos rt, rtn, q_S1, q_A1, nI_1, if_true, if_false, j6, if_pos hd0]
      · rw [trD]; simp [dpt, hs, k59, j6, q_A1]
      · intro j hj; rw [trD] at hj; rw [trO]; simp [dpt, opn, hs, k59] at hj ⊢; simp [q_A2]; exact jo j hj
      · intro z; rw [hS] at z; exact absurd z (by decide)
      · rw [trC]; simp [hs, q_S1, q_A1, j4]
      · intro _; rw [trM]; simp [hs, q_S1, q_A1]; exact j8 (by decide)
      · refine jr_1 jr ha (fun z => by simp [k59] at z) (fun u => ?_); simp [rbT, rb, oprR, talR, hs, k59, q_A2]
      · exact ja_1 ja (fun u => by simp [q_S2, q_A2]) (fun y z => by simp [cnt, hs, k59] at z)
      · exact jt_1 jt (fun u => by simp [q_S2, q_A2]) (by rw [hs]; decide)
      · exact jc_1 jc (fun u => by simp [q_S2, q_A2]) (by rw [hs]; decide)
    · have hd0 : ¬ nI (cD (tr K t)) = 0 := fun z => hd ((q_eqL (by omega) (by decide)).mp z)
      have hS : cS (tr K (t + 1)) = 0 := by simp +decide only [trS, nxt, opr, tal, hs, k59, if_neg hd, false_and, and_false, true_and, and_true, if_true, if_false, j6, if_neg hd0]
      refine ⟨σ, ?_, by (repeat first | exact hF | apply JF.S | apply JF.A) <;> decide, fun z => absurd hS z⟩
      rw [hS]; simp +decide only [hs, k59, if_neg hd, cdisp, h7, p_Parser_nextInClass, p_Parser_nextInHead, p_Parser_nextInBody, p_Parser_nextInExpression, p_Parser_only, p_Parser_className, p_Outline_addClass, p_Parser_name, p_Parser_assign, p_Parser_typeName, p_Parser_memberTail, p_Parser_operand, p_Parser_open, p_Parser_tail, p_Parser_close, p_Parser_equalsSign, p_Parser_statement_b37, p_Parser_statement_b38, p_Parser_firstArgument, p_Parser_countArgument, p_Parser_countArgument_b22, p_Parser_openArguments, x1, x2, x3, x4, x5, x6, x7, x8, x40, x41, x43, x44, x46, x59, x61, x123, x125, q_bd1, q_bd2, if_pos rt, rtn, q_S1, q_A1, nI_1, if_true, if_false, j6, if_neg hd0]
  by_cases k61 : K t = 61
  · skip
    by_cases hd : cD (tr K t) = 0
    · have hd0 : nI (cD (tr K t)) = 0 := by rw [hd]; rfl
      have h9 := j9 (by decide)
      cases he : cE (tr K t)
      · rw [he] at h9
        have h90 : σ.1 9 = 0 := h9
        have hS : cS (tr K (t + 1)) = 0 := by simp +decide only [trS, nxt, opr, tal, hs, k61, if_pos hd, he, false_and, and_false, true_and, and_true, if_true, if_false, j6, if_pos hd0, h90]
        refine ⟨σ, ?_, by (repeat first | exact hF | apply JF.S | apply JF.A) <;> decide, fun z => absurd hS z⟩
        rw [hS]; simp +decide only [hs, k61, if_pos hd, he, cdisp, h7, p_Parser_nextInClass, p_Parser_nextInHead, p_Parser_nextInBody, p_Parser_nextInExpression, p_Parser_only, p_Parser_className, p_Outline_addClass, p_Parser_name, p_Parser_assign, p_Parser_typeName, p_Parser_memberTail, p_Parser_operand, p_Parser_open, p_Parser_tail, p_Parser_close, p_Parser_equalsSign, p_Parser_statement_b37, p_Parser_statement_b38, p_Parser_firstArgument, p_Parser_countArgument, p_Parser_countArgument_b22, p_Parser_openArguments, x1, x2, x3, x4, x5, x6, x7, x8, x40, x41, x43, x44, x46, x59, x61, x123, x125, q_bd1, q_bd2, if_pos rt, rtn, q_S1, q_A1, nI_1, if_true, if_false, j6, if_pos hd0, h90]
      · rw [he] at h9
        have h90 : σ.1 9 = 1 := h9
        have hS : cS (tr K (t + 1)) = 17 := by simp +decide only [trS, nxt, opr, tal, hs, k61, if_pos hd, he, false_and, and_false, true_and, and_true, if_true, if_false, j6, if_pos hd0, h90]
        refine ⟨sA (sS σ 9 0) 9 t 18, ?_, by (repeat first | exact hF | apply JF.S | apply JF.A) <;> decide, fun _ => ⟨?_, ?_, ?_, ?_, ?_, ?_, ?_, ?_, ?_⟩⟩
        · rw [hS]; simp +decide only [hs, k61, if_pos hd, he, cdisp, h7, p_Parser_nextInClass, p_Parser_nextInHead, p_Parser_nextInBody, p_Parser_nextInExpression, p_Parser_only, p_Parser_className, p_Outline_addClass, p_Parser_name, p_Parser_assign, p_Parser_typeName, p_Parser_memberTail, p_Parser_operand, p_Parser_open, p_Parser_tail, p_Parser_close, p_Parser_equalsSign, p_Parser_statement_b37, p_Parser_statement_b38, p_Parser_firstArgument, p_Parser_countArgument, p_Parser_countArgument_b22, p_Parser_openArguments, x1, x2, x3, x4, x5, x6, x7, x8, x40, x41, x43, x44, x46, x59, x61, x123, x125, q_bd1, q_bd2, if_pos rt, rtn, q_S1, q_A1, nI_1, if_true, if_false, j6, if_pos hd0, h90]
        · rw [trD]; simp [dpt, hs, k61, j6, q_S1, q_A1]
        · intro j hj; rw [trD] at hj; rw [trO]; simp [dpt, opn, hs, k61] at hj ⊢; simp [q_S2, q_A2]; exact jo j hj
        · intro _; rw [trE]; simp [eqm, hs, k61, q_S1, q_A1, b01]
        · rw [trC]; simp [hs, q_S1, q_A1, j4]
        · intro _; rw [trM]; simp [hs, q_S1, q_A1]; exact j8 (by decide)
        · refine jr_1 jr ha (fun z => by simp [k61] at z) (fun u => ?_); simp [rbT, rb, oprR, talR, hs, k61, q_S2, q_A2]
        · exact ja_1 ja (fun u => by simp [q_S2, q_A2]) (fun y z => by simp [cnt, hs, k61] at z)
        · exact jt_1 jt (fun u => by simp [q_S2, q_A2]) (by rw [hs]; decide)
        · exact jc_1 jc (fun u => by simp [q_S2, q_A2]) (by rw [hs]; decide)
    · have hd0 : ¬ nI (cD (tr K t)) = 0 := fun z => hd ((q_eqL (by omega) (by decide)).mp z)
      have hS : cS (tr K (t + 1)) = 0 := by simp +decide only [trS, nxt, opr, tal, hs, k61, if_neg hd, false_and, and_false, true_and, and_true, if_true, if_false, j6, if_neg hd0]
      refine ⟨σ, ?_, by (repeat first | exact hF | apply JF.S | apply JF.A) <;> decide, fun z => absurd hS z⟩
      rw [hS]; simp +decide only [hs, k61, if_neg hd, cdisp, h7, p_Parser_nextInClass, p_Parser_nextInHead, p_Parser_nextInBody, p_Parser_nextInExpression, p_Parser_only, p_Parser_className, p_Outline_addClass, p_Parser_name, p_Parser_assign, p_Parser_typeName, p_Parser_memberTail, p_Parser_operand, p_Parser_open, p_Parser_tail, p_Parser_close, p_Parser_equalsSign, p_Parser_statement_b37, p_Parser_statement_b38, p_Parser_firstArgument, p_Parser_countArgument, p_Parser_countArgument_b22, p_Parser_openArguments, x1, x2, x3, x4, x5, x6, x7, x8, x40, x41, x43, x44, x46, x59, x61, x123, x125, q_bd1, q_bd2, if_pos rt, rtn, q_S1, q_A1, nI_1, if_true, if_false, j6, if_neg hd0]
  have hS : cS (tr K (t + 1)) = 0 := by simp +decide only [trS, nxt, opr, tal, hs, k40, k41, k43, k44, k46, k59, k61, false_and, and_false, true_and, and_true, if_true, if_false]
  refine ⟨σ, ?_, by (repeat first | exact hF | apply JF.S | apply JF.A) <;> decide, fun z => absurd hS z⟩
  rw [hS]; simp +decide only [hs, k40, k41, k43, k44, k46, k59, k61, cdisp, h7, p_Parser_nextInClass, p_Parser_nextInHead, p_Parser_nextInBody, p_Parser_nextInExpression, p_Parser_only, p_Parser_className, p_Outline_addClass, p_Parser_name, p_Parser_assign, p_Parser_typeName, p_Parser_memberTail, p_Parser_operand, p_Parser_open, p_Parser_tail, p_Parser_close, p_Parser_equalsSign, p_Parser_statement_b37, p_Parser_statement_b38, p_Parser_firstArgument, p_Parser_countArgument, p_Parser_countArgument_b22, p_Parser_openArguments, x1, x2, x3, x4, x5, x6, x7, x8, x40, x41, x43, x44, x46, x59, x61, x123, x125, q_bd1, q_bd2, if_pos rt, rtn, q_S1, q_A1, nI_1, if_true, if_false]
set_option maxHeartbeats 4000000 in
theorem pa_21 {K : Nat → Int32} {N t : Nat} {σ0 σ : Sto} {x : Int32} (hT : TKC K N σ0) (hF : JF σ0 σ) (hJ : JS K σ t) (h7 : σ.1 7 = 21) (hs : cS (tr K t) = 21) (ht : t < N) (hx : SK x (K t)) : PaR K σ0 t (cdisp σ (nI t) x) := by
  have hN := hT.1
  obtain ⟨j6, jo, j9, j4, j8, jr, ja, jt, jc⟩ := hJ
  have ha : cS (tr K t) ≠ 0 := by rw [hs]; decide
  obtain ⟨x1, x2, x3, x4, x5, x6, x7, x8, x40, x41, x43, x44, x46, x59, x61, x123, x125⟩ := hx
  have rt : inR (nI t) 121 := q_inR (by omega) (by omega)
  have rtn : (nI t).toNatClampNeg = t := q_tn (by omega)
  obtain ⟨w1, w2, w3, w4, w5, w6, w7, w8, w9⟩ := WF_all t ha
  obtain ⟨g1, g2, g3, g4, g5⟩ := WG_all t ha
  rw [hs] at j9 j8 w2 w3 w5 w6 w7 w8 w9 g1 g2 g3 g4 g5
  unfold PaR
  obtain ⟨w31, w32, ho⟩ := w3 rfl
  have hd : ¬ cD (tr K t) = 0 := by omega
  have hd0 : ¬ nI (cD (tr K t)) = 0 := fun z => hd ((q_eqL (by omega) (by decide)).mp z)
  have hd1 : nI (cD (tr K t)) - 1 = nI (cD (tr K t) - 1) := q_subL (show 1 ≤ cD (tr K t) by omega)
  have r8 : inR (nI (cD (tr K t) - 1)) 8 := q_inR (by omega) (by omega)
  have d8 : (nI (cD (tr K t) - 1)).toNatClampNeg = cD (tr K t) - 1 := q_tn (by omega)
  have jo1 := jo (cD (tr K t) - 1) (by omega)
  have hc : callB (tr K t) = true := callB_t (by omega) (by rw [ho]; exact q_neg (by omega))
  have hy1 : ¬ nI (t - 2) = (-1 : Int32) := q_neg (by omega)
  have ry : inR (nI (t - 2)) 121 := q_inR (by omega) (by omega)
  have yn : (nI (t - 2)).toNatClampNeg = t - 2 := q_tn (by omega)
  by_cases k41 : K t = 41
  · skip
    have hd0 : ¬ nI (cD (tr K t)) = 0 := fun z => hd ((q_eqL (by omega) (by decide)).mp z)
    have hd1 : nI (cD (tr K t)) - 1 = nI (cD (tr K t) - 1) := q_subL (show 1 ≤ cD (tr K t) by omega)
    have hS : cS (tr K (t + 1)) = 22 := by simp +decide only [trS, nxt, opr, tal, hs, k41, if_neg hd, false_and, and_false, true_and, and_true, if_true, if_false, j6, if_neg hd0, hd1]
    refine ⟨sA (sS σ 6 (nI (cD (tr K t) - 1))) 9 t 24, ?_, by (repeat first | exact hF | apply JF.S | apply JF.A) <;> decide, fun _ => ⟨?_, ?_, ?_, ?_, ?_, ?_, ?_, ?_, ?_⟩⟩
    · rw [hS]; simp +decide only [hs, k41, if_neg hd, cdisp, h7, p_Parser_nextInClass, p_Parser_nextInHead, p_Parser_nextInBody, p_Parser_nextInExpression, p_Parser_only, p_Parser_className, p_Outline_addClass, p_Parser_name, p_Parser_assign, p_Parser_typeName, p_Parser_memberTail, p_Parser_operand, p_Parser_open, p_Parser_tail, p_Parser_close, p_Parser_equalsSign, p_Parser_statement_b37, p_Parser_statement_b38, p_Parser_firstArgument, p_Parser_countArgument, p_Parser_countArgument_b22, p_Parser_openArguments, x1, x2, x3, x4, x5, x6, x7, x8, x40, x41, x43, x44, x46, x59, x61, x123, x125, q_bd1, q_bd2, if_pos rt, rtn, q_S1, q_A1, nI_1, if_true, if_false, j6, if_neg hd0, hd1]
    · rw [trD]; simp [dpt, hs, k41, q_S1, q_A1]
    · intro j hj; rw [trD] at hj; rw [trO]; simp [dpt, opn, hs, k41] at hj ⊢; simp [q_S2, q_A2]; exact jo j (by omega)
    · intro _; rw [trE]; simp [eqm, hs, k41, q_S1, q_A1, b01]; exact j9 (by decide)
    · rw [trC]; simp [hs, q_S1, q_A1, j4]
    · intro _; rw [trM]; simp [hs, q_S1, q_A1]; exact j8 (by decide)
    · refine jr_1 jr ha (fun z => by simp [k41] at z) (fun u => ?_); simp [rbT, rb, oprR, talR, hs, k41, q_S2, q_A2]
    · exact ja_1 ja (fun u => by simp [q_S2, q_A2]) (fun y z => by simp [cnt, hs, k41] at z)
    · exact jt_1 jt (fun u => by simp [q_S2, q_A2]) (by rw [hs]; decide)
    · exact jc_1 jc (fun u => by simp [q_S2, q_A2]) (by rw [hs]; decide)
  by_cases k1 : K t = 1
  · skip
    have hS : cS (tr K (t + 1)) = 20 := by simp +decide only [trS, nxt, opr, tal, hs, k1, false_and, and_false, true_and, and_true, if_true, if_false, j6, if_neg hd0, hd1, if_pos r8, d8, jo1, ho, if_neg hy1, if_pos ry, yn]
    refine ⟨sA (sA σ 10 (t - 2) (σ.2.1 10 (t - 2) + 1)) 9 t 9, ?_, by (repeat first | exact hF | apply JF.S | apply JF.A) <;> decide, fun _ => ⟨?_, ?_, ?_, ?_, ?_, ?_, ?_, ?_, ?_⟩⟩
    · rw [hS]; simp +decide only [hs, k1, cdisp, h7, p_Parser_nextInClass, p_Parser_nextInHead, p_Parser_nextInBody, p_Parser_nextInExpression, p_Parser_only, p_Parser_className, p_Outline_addClass, p_Parser_name, p_Parser_assign, p_Parser_typeName, p_Parser_memberTail, p_Parser_operand, p_Parser_open, p_Parser_tail, p_Parser_close, p_Parser_equalsSign, p_Parser_statement_b37, p_Parser_statement_b38, p_Parser_firstArgument, p_Parser_countArgument, p_Parser_countArgument_b22, p_Parser_openArguments, x1, x2, x3, x4, x5, x6, x7, x8, x40, x41, x43, x44, x46, x59, x61, x123, x125, q_bd1, q_bd2, if_pos rt, rtn, q_S1, q_A1, nI_1, if_true, if_false, j6, if_neg hd0, hd1, if_pos r8, d8, jo1, ho, if_neg hy1, if_pos ry, yn]
    · rw [trD]; simp [dpt, hs, k1, j6, q_S1, q_A1, j6, if_neg hd0, hd1, if_pos r8, d8, jo1, ho, if_neg hy1, if_pos ry, yn]
    · intro j hj; rw [trD] at hj; rw [trO]; simp [dpt, opn, hs, k1, j6, if_neg hd0, hd1, if_pos r8, d8, jo1, ho, if_neg hy1, if_pos ry, yn] at hj ⊢; first | exact jo j hj | (simp [q_S2, q_A2]; exact jo j hj)
    · intro _; rw [trE]; simp [eqm, hs, k1, q_S1, q_A1, b01, j6, if_neg hd0, hd1, if_pos r8, d8, jo1, ho, if_neg hy1, if_pos ry, yn]; exact j9 (by decide)
    · rw [trC]; simp [hs, q_S1, q_A1, j4]
    · intro _; rw [trM]; simp [hs, q_S1, q_A1]; exact j8 (by decide)
    · refine jr_1 jr ha (fun z => by simp [hs, k1] at z) (fun u => ?_); simp [rbT, rb, oprR, talR, hs, k1, q_S2, q_A2, j6, if_neg hd0, hd1, if_pos r8, d8, jo1, ho, if_neg hy1, if_pos ry, yn]
    · exact ja_2 (x := t - 2) ja (fun u => by (try simp only [q_S2]); (try rw [q_A2, if_neg (by decide)]); (try rw [q_A2, if_neg (by decide)]); rw [q_A2, if_pos rfl]; by_cases e : u = t - 2; (rw [if_pos e, if_pos e, e]); (rw [if_neg e, if_neg e])) (fun z hz => by simp only [cnt, hs, k1, hc, ho]; rw [q_eq (by omega) (by omega)]; simp +decide [hz]; exact eq_comm) (by omega)
    · exact jt_1 jt (fun u => by simp [q_S2, q_A2]) (by rw [hs]; decide)
    · exact jc_1 jc (fun u => by simp [q_S2, q_A2]) (by rw [hs]; decide)
  by_cases k2 : K t = 2
  · skip
    have hS : cS (tr K (t + 1)) = 22 := by simp +decide only [trS, nxt, opr, tal, hs, k2, false_and, and_false, true_and, and_true, if_true, if_false, j6, if_neg hd0, hd1, if_pos r8, d8, jo1, ho, if_neg hy1, if_pos ry, yn]
    refine ⟨sA (sA σ 10 (t - 2) (σ.2.1 10 (t - 2) + 1)) 9 t 13, ?_, by (repeat first | exact hF | apply JF.S | apply JF.A) <;> decide, fun _ => ⟨?_, ?_, ?_, ?_, ?_, ?_, ?_, ?_, ?_⟩⟩
    · rw [hS]; simp +decide only [hs, k2, cdisp, h7, p_Parser_nextInClass, p_Parser_nextInHead, p_Parser_nextInBody, p_Parser_nextInExpression, p_Parser_only, p_Parser_className, p_Outline_addClass, p_Parser_name, p_Parser_assign, p_Parser_typeName, p_Parser_memberTail, p_Parser_operand, p_Parser_open, p_Parser_tail, p_Parser_close, p_Parser_equalsSign, p_Parser_statement_b37, p_Parser_statement_b38, p_Parser_firstArgument, p_Parser_countArgument, p_Parser_countArgument_b22, p_Parser_openArguments, x1, x2, x3, x4, x5, x6, x7, x8, x40, x41, x43, x44, x46, x59, x61, x123, x125, q_bd1, q_bd2, if_pos rt, rtn, q_S1, q_A1, nI_1, if_true, if_false, j6, if_neg hd0, hd1, if_pos r8, d8, jo1, ho, if_neg hy1, if_pos ry, yn]
    · rw [trD]; simp [dpt, hs, k2, j6, q_S1, q_A1, j6, if_neg hd0, hd1, if_pos r8, d8, jo1, ho, if_neg hy1, if_pos ry, yn]
    · intro j hj; rw [trD] at hj; rw [trO]; simp [dpt, opn, hs, k2, j6, if_neg hd0, hd1, if_pos r8, d8, jo1, ho, if_neg hy1, if_pos ry, yn] at hj ⊢; first | exact jo j hj | (simp [q_S2, q_A2]; exact jo j hj)
    · intro _; rw [trE]; simp [eqm, hs, k2, q_S1, q_A1, b01, j6, if_neg hd0, hd1, if_pos r8, d8, jo1, ho, if_neg hy1, if_pos ry, yn]; exact j9 (by decide)
    · rw [trC]; simp [hs, q_S1, q_A1, j4]
    · intro _; rw [trM]; simp [hs, q_S1, q_A1]; exact j8 (by decide)
    · refine jr_1 jr ha (fun z => by simp [hs, k2] at z) (fun u => ?_); simp [rbT, rb, oprR, talR, hs, k2, q_S2, q_A2, j6, if_neg hd0, hd1, if_pos r8, d8, jo1, ho, if_neg hy1, if_pos ry, yn]
    · exact ja_2 (x := t - 2) ja (fun u => by (try simp only [q_S2]); (try rw [q_A2, if_neg (by decide)]); (try rw [q_A2, if_neg (by decide)]); rw [q_A2, if_pos rfl]; by_cases e : u = t - 2; (rw [if_pos e, if_pos e, e]); (rw [if_neg e, if_neg e])) (fun z hz => by simp only [cnt, hs, k2, hc, ho]; rw [q_eq (by omega) (by omega)]; simp +decide [hz]; exact eq_comm) (by omega)
    · exact jt_1 jt (fun u => by simp [q_S2, q_A2]) (by rw [hs]; decide)
    · exact jc_1 jc (fun u => by simp [q_S2, q_A2]) (by rw [hs]; decide)
  by_cases k7 : K t = 7
  · skip
    have hS : cS (tr K (t + 1)) = 18 := by simp +decide only [trS, nxt, opr, tal, hs, k7, false_and, and_false, true_and, and_true, if_true, if_false, j6, if_neg hd0, hd1, if_pos r8, d8, jo1, ho, if_neg hy1, if_pos ry, yn]
    refine ⟨sA σ 10 (t - 2) (σ.2.1 10 (t - 2) + 1), ?_, by (repeat first | exact hF | apply JF.S | apply JF.A) <;> decide, fun _ => ⟨?_, ?_, ?_, ?_, ?_, ?_, ?_, ?_, ?_⟩⟩
    · rw [hS]; simp +decide only [hs, k7, cdisp, h7, p_Parser_nextInClass, p_Parser_nextInHead, p_Parser_nextInBody, p_Parser_nextInExpression, p_Parser_only, p_Parser_className, p_Outline_addClass, p_Parser_name, p_Parser_assign, p_Parser_typeName, p_Parser_memberTail, p_Parser_operand, p_Parser_open, p_Parser_tail, p_Parser_close, p_Parser_equalsSign, p_Parser_statement_b37, p_Parser_statement_b38, p_Parser_firstArgument, p_Parser_countArgument, p_Parser_countArgument_b22, p_Parser_openArguments, x1, x2, x3, x4, x5, x6, x7, x8, x40, x41, x43, x44, x46, x59, x61, x123, x125, q_bd1, q_bd2, if_pos rt, rtn, q_S1, q_A1, nI_1, if_true, if_false, j6, if_neg hd0, hd1, if_pos r8, d8, jo1, ho, if_neg hy1, if_pos ry, yn]
    · rw [trD]; simp [dpt, hs, k7, j6, q_S1, q_A1, j6, if_neg hd0, hd1, if_pos r8, d8, jo1, ho, if_neg hy1, if_pos ry, yn]
    · intro j hj; rw [trD] at hj; rw [trO]; simp [dpt, opn, hs, k7, j6, if_neg hd0, hd1, if_pos r8, d8, jo1, ho, if_neg hy1, if_pos ry, yn] at hj ⊢; first | exact jo j hj | (simp [q_S2, q_A2]; exact jo j hj)
    · intro _; rw [trE]; simp [eqm, hs, k7, q_S1, q_A1, b01, j6, if_neg hd0, hd1, if_pos r8, d8, jo1, ho, if_neg hy1, if_pos ry, yn]; exact j9 (by decide)
    · rw [trC]; simp [hs, q_S1, q_A1, j4]
    · intro _; rw [trM]; simp [hs, q_S1, q_A1]; exact j8 (by decide)
    · exact jr_0 jr ha (fun z => by simp [hs, k7] at z) (by simp [rbT, rb, oprR, talR, hs, k7, j6, if_neg hd0, hd1, if_pos r8, d8, jo1, ho, if_neg hy1, if_pos ry, yn]) (fun u => by simp [q_S2, q_A2])
    · exact ja_2 (x := t - 2) ja (fun u => by (try simp only [q_S2]); (try rw [q_A2, if_neg (by decide)]); (try rw [q_A2, if_neg (by decide)]); rw [q_A2, if_pos rfl]; by_cases e : u = t - 2; (rw [if_pos e, if_pos e, e]); (rw [if_neg e, if_neg e])) (fun z hz => by simp only [cnt, hs, k7, hc, ho]; rw [q_eq (by omega) (by omega)]; simp +decide [hz]; exact eq_comm) (by omega)
    · exact jt_1 jt (fun u => by simp [q_S2, q_A2]) (by rw [hs]; decide)
    · exact jc_1 jc (fun u => by simp [q_S2, q_A2]) (by rw [hs]; decide)
  by_cases k8 : K t = 8
  · skip
    have hS : cS (tr K (t + 1)) = 22 := by simp +decide only [trS, nxt, opr, tal, hs, k8, false_and, and_false, true_and, and_true, if_true, if_false, j6, if_neg hd0, hd1, if_pos r8, d8, jo1, ho, if_neg hy1, if_pos ry, yn]
    refine ⟨sA (sA σ 10 (t - 2) (σ.2.1 10 (t - 2) + 1)) 9 t 14, ?_, by (repeat first | exact hF | apply JF.S | apply JF.A) <;> decide, fun _ => ⟨?_, ?_, ?_, ?_, ?_, ?_, ?_, ?_, ?_⟩⟩
    · rw [hS]; simp +decide only [hs, k8, cdisp, h7, p_Parser_nextInClass, p_Parser_nextInHead, p_Parser_nextInBody, p_Parser_nextInExpression, p_Parser_only, p_Parser_className, p_Outline_addClass, p_Parser_name, p_Parser_assign, p_Parser_typeName, p_Parser_memberTail, p_Parser_operand, p_Parser_open, p_Parser_tail, p_Parser_close, p_Parser_equalsSign, p_Parser_statement_b37, p_Parser_statement_b38, p_Parser_firstArgument, p_Parser_countArgument, p_Parser_countArgument_b22, p_Parser_openArguments, x1, x2, x3, x4, x5, x6, x7, x8, x40, x41, x43, x44, x46, x59, x61, x123, x125, q_bd1, q_bd2, if_pos rt, rtn, q_S1, q_A1, nI_1, if_true, if_false, j6, if_neg hd0, hd1, if_pos r8, d8, jo1, ho, if_neg hy1, if_pos ry, yn]
    · rw [trD]; simp [dpt, hs, k8, j6, q_S1, q_A1, j6, if_neg hd0, hd1, if_pos r8, d8, jo1, ho, if_neg hy1, if_pos ry, yn]
    · intro j hj; rw [trD] at hj; rw [trO]; simp [dpt, opn, hs, k8, j6, if_neg hd0, hd1, if_pos r8, d8, jo1, ho, if_neg hy1, if_pos ry, yn] at hj ⊢; first | exact jo j hj | (simp [q_S2, q_A2]; exact jo j hj)
    · intro _; rw [trE]; simp [eqm, hs, k8, q_S1, q_A1, b01, j6, if_neg hd0, hd1, if_pos r8, d8, jo1, ho, if_neg hy1, if_pos ry, yn]; exact j9 (by decide)
    · rw [trC]; simp [hs, q_S1, q_A1, j4]
    · intro _; rw [trM]; simp [hs, q_S1, q_A1]; exact j8 (by decide)
    · refine jr_1 jr ha (fun z => by simp [hs, k8] at z) (fun u => ?_); simp [rbT, rb, oprR, talR, hs, k8, q_S2, q_A2, j6, if_neg hd0, hd1, if_pos r8, d8, jo1, ho, if_neg hy1, if_pos ry, yn]
    · exact ja_2 (x := t - 2) ja (fun u => by (try simp only [q_S2]); (try rw [q_A2, if_neg (by decide)]); (try rw [q_A2, if_neg (by decide)]); rw [q_A2, if_pos rfl]; by_cases e : u = t - 2; (rw [if_pos e, if_pos e, e]); (rw [if_neg e, if_neg e])) (fun z hz => by simp only [cnt, hs, k8, hc, ho]; rw [q_eq (by omega) (by omega)]; simp +decide [hz]; exact eq_comm) (by omega)
    · exact jt_1 jt (fun u => by simp [q_S2, q_A2]) (by rw [hs]; decide)
    · exact jc_1 jc (fun u => by simp [q_S2, q_A2]) (by rw [hs]; decide)
  by_cases k40 : K t = 40
  · skip
    by_cases hh : cD (tr K t) < 8
    · have hd8 : nI (cD (tr K t)) < 8 := (q_ltL (by omega) (by decide)).mpr hh
      have r8b : inR (nI (cD (tr K t))) 8 := q_inR hh (by omega)
      have dtn : (nI (cD (tr K t))).toNatClampNeg = cD (tr K t) := q_tn (by omega)
      have hS : cS (tr K (t + 1)) = 17 := by simp +decide only [trS, nxt, opr, tal, hs, k40, if_pos hh, false_and, and_false, true_and, and_true, if_true, if_false, j6, if_neg hd0, hd1, if_pos r8, d8, jo1, ho, if_neg hy1, if_pos ry, yn, if_pos hd8, if_pos r8b, dtn]
      refine ⟨sS (sA (sA (sA σ 10 (t - 2) (σ.2.1 10 (t - 2) + 1)) 9 t 21) 19 (cD (tr K t)) (-1)) 6 (nI (cD (tr K t) + 1)), ?_, by (repeat first | exact hF | apply JF.S | apply JF.A) <;> decide, fun _ => ⟨?_, ?_, ?_, ?_, ?_, ?_, ?_, ?_, ?_⟩⟩
      · rw [hS]; simp +decide only [hs, k40, if_pos hh, cdisp, h7, p_Parser_nextInClass, p_Parser_nextInHead, p_Parser_nextInBody, p_Parser_nextInExpression, p_Parser_only, p_Parser_className, p_Outline_addClass, p_Parser_name, p_Parser_assign, p_Parser_typeName, p_Parser_memberTail, p_Parser_operand, p_Parser_open, p_Parser_tail, p_Parser_close, p_Parser_equalsSign, p_Parser_statement_b37, p_Parser_statement_b38, p_Parser_firstArgument, p_Parser_countArgument, p_Parser_countArgument_b22, p_Parser_openArguments, x1, x2, x3, x4, x5, x6, x7, x8, x40, x41, x43, x44, x46, x59, x61, x123, x125, q_bd1, q_bd2, if_pos rt, rtn, q_S1, q_A1, nI_1, if_true, if_false, j6, if_neg hd0, hd1, if_pos r8, d8, jo1, ho, if_neg hy1, if_pos ry, yn, if_pos hd8, if_pos r8b, dtn]
      · rw [trD]; simp [dpt, hs, k40, q_S1]
      · intro j hj; rw [trD] at hj; rw [trO]; simp [dpt, opn, hs, k40] at hj ⊢; simp [q_S2, q_A2]; exact jo_open jo j hj
      · intro _; rw [trE]; simp [eqm, hs, k40, if_pos hh, q_S1, q_A1, b01, j6, if_neg hd0, hd1, if_pos r8, d8, jo1, ho, if_neg hy1, if_pos ry, yn, if_pos hd8, if_pos r8b, dtn]; exact j9 (by decide)
      · rw [trC]; simp [hs, q_S1, q_A1, j4]
      · intro _; rw [trM]; simp [hs, q_S1, q_A1]; exact j8 (by decide)
      · refine jr_1 jr ha (fun z => by simp [hs, k40, if_pos hh] at z) (fun u => ?_); simp [rbT, rb, oprR, talR, hs, k40, if_pos hh, q_S2, q_A2, j6, if_neg hd0, hd1, if_pos r8, d8, jo1, ho, if_neg hy1, if_pos ry, yn, if_pos hd8, if_pos r8b, dtn]
      · exact ja_2 (x := t - 2) ja (fun u => by (try simp only [q_S2]); (try rw [q_A2, if_neg (by decide)]); (try rw [q_A2, if_neg (by decide)]); rw [q_A2, if_pos rfl]; by_cases e : u = t - 2; (rw [if_pos e, if_pos e, e]); (rw [if_neg e, if_neg e])) (fun z hz => by simp only [cnt, hs, k40, hc, ho]; rw [q_eq (by omega) (by omega)]; simp +decide [hz]; exact eq_comm) (by omega)
      · exact jt_1 jt (fun u => by simp [q_S2, q_A2]) (by rw [hs]; decide)
      · exact jc_1 jc (fun u => by simp [q_S2, q_A2]) (by rw [hs]; decide)
    · have hd8 : ¬ nI (cD (tr K t)) < 8 := fun z => hh ((q_ltL (by omega) (by decide)).mp z)
      have hS : cS (tr K (t + 1)) = 0 := by simp +decide only [trS, nxt, opr, tal, hs, k40, if_neg hh, false_and, and_false, true_and, and_true, if_true, if_false, j6, if_neg hd0, hd1, if_pos r8, d8, jo1, ho, if_neg hy1, if_pos ry, yn, if_neg hd8]
      refine ⟨sA (sA σ 10 (t - 2) (σ.2.1 10 (t - 2) + 1)) 9 t 21, ?_, by (repeat first | exact hF | apply JF.S | apply JF.A) <;> decide, fun z => absurd hS z⟩
      rw [hS]; simp +decide only [hs, k40, if_neg hh, cdisp, h7, p_Parser_nextInClass, p_Parser_nextInHead, p_Parser_nextInBody, p_Parser_nextInExpression, p_Parser_only, p_Parser_className, p_Outline_addClass, p_Parser_name, p_Parser_assign, p_Parser_typeName, p_Parser_memberTail, p_Parser_operand, p_Parser_open, p_Parser_tail, p_Parser_close, p_Parser_equalsSign, p_Parser_statement_b37, p_Parser_statement_b38, p_Parser_firstArgument, p_Parser_countArgument, p_Parser_countArgument_b22, p_Parser_openArguments, x1, x2, x3, x4, x5, x6, x7, x8, x40, x41, x43, x44, x46, x59, x61, x123, x125, q_bd1, q_bd2, if_pos rt, rtn, q_S1, q_A1, nI_1, if_true, if_false, j6, if_neg hd0, hd1, if_pos r8, d8, jo1, ho, if_neg hy1, if_pos ry, yn, if_neg hd8]
  have hS : cS (tr K (t + 1)) = 0 := by simp +decide only [trS, nxt, opr, tal, hs, k41, k1, k2, k7, k8, k40, false_and, and_false, true_and, and_true, if_true, if_false]
  refine ⟨sA σ 10 (t - 2) (σ.2.1 10 (t - 2) + 1), ?_, by (repeat first | exact hF | apply JF.S | apply JF.A) <;> decide, fun z => absurd hS z⟩
  rw [hS]; simp +decide only [hs, k41, k1, k2, k7, k8, k40, cdisp, h7, p_Parser_nextInClass, p_Parser_nextInHead, p_Parser_nextInBody, p_Parser_nextInExpression, p_Parser_only, p_Parser_className, p_Outline_addClass, p_Parser_name, p_Parser_assign, p_Parser_typeName, p_Parser_memberTail, p_Parser_operand, p_Parser_open, p_Parser_tail, p_Parser_close, p_Parser_equalsSign, p_Parser_statement_b37, p_Parser_statement_b38, p_Parser_firstArgument, p_Parser_countArgument, p_Parser_countArgument_b22, p_Parser_openArguments, x1, x2, x3, x4, x5, x6, x7, x8, x40, x41, x43, x44, x46, x59, x61, x123, x125, q_bd1, q_bd2, if_pos rt, rtn, q_S1, q_A1, nI_1, if_true, if_false, j6, if_neg hd0, hd1, if_pos r8, d8, jo1, ho, if_neg hy1, if_pos ry, yn]
