set_option maxHeartbeats 4000000 in
theorem pa_1 {K : Nat → Int32} {N t : Nat} {σ0 σ : Sto} {x : Int32} (hT : TKC K N σ0) (hF : JF σ0 σ) (hJ : JS K σ t) (h7 : σ.1 7 = 1) (hs : cS (tr K t) = 1) (ht : t < N) (hx : SK x (K t)) : PaR K σ0 t (cdisp σ (nI t) x) := by
  have hN := hT.1
  obtain ⟨j6, jo, j9, j4, j8, jr, ja, jt, jc⟩ := hJ
  have ha : cS (tr K t) ≠ 0 := by rw [hs]; decide
  obtain ⟨x1, x2, x3, x4, x5, x6, x7, x8, x40, x41, x43, x44, x46, x59, x61, x123, x125⟩ := hx
  have rt : inR (nI t) 121 := q_inR (by omega) (by omega)
  have rtn : (nI t).toNatClampNeg = t := q_tn (by omega)
  obtain ⟨w1, w2, w3, w4, w5, w6, w7, w8, w9⟩ := WF_all t ha
  obtain ⟨g1, g2, g3, g4, g5⟩ := WG_all t ha
  rw [hs] at j9 j8 w2 w3 w5 w6 w7 w8 w9 g1 g2 g3 g4 g5
  unfold PaR
  by_cases k4 : K t = 4
  · skip
    have hS : cS (tr K (t + 1)) = 2 := by simp +decide only [trS, nxt, opr, tal, hs, k4, false_and, and_false, true_and, and_true, if_true, if_false]
    refine ⟨σ, ?_, by (repeat first | exact hF | apply JF.S | apply JF.A) <;> decide, fun _ => ⟨?_, ?_, ?_, ?_, ?_, ?_, ?_, ?_, ?_⟩⟩
    · rw [hS]; simp +decide only [hs, k4, cdisp, h7, p_Parser_nextInClass, p_Parser_nextInHead, p_Parser_nextInBody, p_Parser_nextInExpression, p_Parser_only, p_Parser_className, p_Outline_addClass, p_Parser_name, p_Parser_assign, p_Parser_typeName, p_Parser_memberTail, p_Parser_operand, p_Parser_open, p_Parser_tail, p_Parser_close, p_Parser_equalsSign, p_Parser_statement_b37, p_Parser_statement_b38, p_Parser_firstArgument, p_Parser_countArgument, p_Parser_countArgument_b22, p_Parser_openArguments, x1, x2, x3, x4, x5, x6, x7, x8, x40, x41, x43, x44, x46, x59, x61, x123, x125, q_bd1, q_bd2, if_pos rt, rtn, q_S1, q_A1, nI_1, if_true, if_false]
    · rw [trD]; simp [dpt, hs, k4, j6, q_S1, q_A1]
    · intro j hj; rw [trD] at hj; rw [trO]; simp [dpt, opn, hs, k4] at hj ⊢; first | exact jo j hj | (simp [q_S2, q_A2]; exact jo j hj)
    · intro z; rw [hS] at z; exact absurd z (by decide)
    · rw [trC]; simp [hs, q_S1, q_A1, j4]
    · intro z; rw [hS] at z; exact absurd z (by decide)
    · exact jr_0 jr ha (fun z => by simp [hs, k4] at z) (by simp [rbT, rb, oprR, talR, hs, k4]) (fun u => by simp [q_S2, q_A2])
    · exact ja_1 ja (fun u => by simp [q_S2, q_A2]) (fun y z => by simp [cnt, hs, k4] at z)
    · exact jt_1 jt (fun u => by simp [q_S2, q_A2]) (by rw [hs]; decide)
    · exact jc_1 jc (fun u => by simp [q_S2, q_A2]) (by rw [hs]; decide)
  have hS : cS (tr K (t + 1)) = 0 := by simp +decide only [trS, nxt, opr, tal, hs, k4, false_and, and_false, true_and, and_true, if_true, if_false]
  refine ⟨σ, ?_, by (repeat first | exact hF | apply JF.S | apply JF.A) <;> decide, fun z => absurd hS z⟩
  rw [hS]; simp +decide only [hs, k4, cdisp, h7, p_Parser_nextInClass, p_Parser_nextInHead, p_Parser_nextInBody, p_Parser_nextInExpression, p_Parser_only, p_Parser_className, p_Outline_addClass, p_Parser_name, p_Parser_assign, p_Parser_typeName, p_Parser_memberTail, p_Parser_operand, p_Parser_open, p_Parser_tail, p_Parser_close, p_Parser_equalsSign, p_Parser_statement_b37, p_Parser_statement_b38, p_Parser_firstArgument, p_Parser_countArgument, p_Parser_countArgument_b22, p_Parser_openArguments, x1, x2, x3, x4, x5, x6, x7, x8, x40, x41, x43, x44, x46, x59, x61, x123, x125, q_bd1, q_bd2, if_pos rt, rtn, q_S1, q_A1, nI_1, if_true, if_false]
set_option maxHeartbeats 4000000 in
theorem pa_3 {K : Nat → Int32} {N t : Nat} {σ0 σ : Sto} {x : Int32} (hT : TKC K N σ0) (hF : JF σ0 σ) (hJ : JS K σ t) (h7 : σ.1 7 = 3) (hs : cS (tr K t) = 3) (ht : t < N) (hx : SK x (K t)) : PaR K σ0 t (cdisp σ (nI t) x) := by
  have hN := hT.1
  obtain ⟨j6, jo, j9, j4, j8, jr, ja, jt, jc⟩ := hJ
  have ha : cS (tr K t) ≠ 0 := by rw [hs]; decide
  obtain ⟨x1, x2, x3, x4, x5, x6, x7, x8, x40, x41, x43, x44, x46, x59, x61, x123, x125⟩ := hx
  have rt : inR (nI t) 121 := q_inR (by omega) (by omega)
  have rtn : (nI t).toNatClampNeg = t := q_tn (by omega)
  obtain ⟨w1, w2, w3, w4, w5, w6, w7, w8, w9⟩ := WF_all t ha
  obtain ⟨g1, g2, g3, g4, g5⟩ := WG_all t ha
  rw [hs] at j9 j8 w2 w3 w5 w6 w7 w8 w9 g1 g2 g3 g4 g5
  unfold PaR
  by_cases k5 : K t = 5
  · skip
    have hS : cS (tr K (t + 1)) = 4 := by simp +decide only [trS, nxt, opr, tal, hs, k5, false_and, and_false, true_and, and_true, if_true, if_false]
    refine ⟨σ, ?_, by (repeat first | exact hF | apply JF.S | apply JF.A) <;> decide, fun _ => ⟨?_, ?_, ?_, ?_, ?_, ?_, ?_, ?_, ?_⟩⟩
    · rw [hS]; simp +decide only [hs, k5, cdisp, h7, p_Parser_nextInClass, p_Parser_nextInHead, p_Parser_nextInBody, p_Parser_nextInExpression, p_Parser_only, p_Parser_className, p_Outline_addClass, p_Parser_name, p_Parser_assign, p_Parser_typeName, p_Parser_memberTail, p_Parser_operand, p_Parser_open, p_Parser_tail, p_Parser_close, p_Parser_equalsSign, p_Parser_statement_b37, p_Parser_statement_b38, p_Parser_firstArgument, p_Parser_countArgument, p_Parser_countArgument_b22, p_Parser_openArguments, x1, x2, x3, x4, x5, x6, x7, x8, x40, x41, x43, x44, x46, x59, x61, x123, x125, q_bd1, q_bd2, if_pos rt, rtn, q_S1, q_A1, nI_1, if_true, if_false]
    · rw [trD]; simp [dpt, hs, k5, j6, q_S1, q_A1]
    · intro j hj; rw [trD] at hj; rw [trO]; simp [dpt, opn, hs, k5] at hj ⊢; first | exact jo j hj | (simp [q_S2, q_A2]; exact jo j hj)
    · intro z; rw [hS] at z; exact absurd z (by decide)
    · rw [trC]; simp [hs, q_S1, q_A1, j4]
    · intro z; rw [hS] at z; exact absurd z (by decide)
    · exact jr_0 jr ha (fun z => by simp [hs, k5] at z) (by simp [rbT, rb, oprR, talR, hs, k5]) (fun u => by simp [q_S2, q_A2])
    · exact ja_1 ja (fun u => by simp [q_S2, q_A2]) (fun y z => by simp [cnt, hs, k5] at z)
    · exact jt_1 jt (fun u => by simp [q_S2, q_A2]) (by rw [hs]; decide)
    · exact jc_1 jc (fun u => by simp [q_S2, q_A2]) (by rw [hs]; decide)
  by_cases k123 : K t = 123
  · skip
    have hS : cS (tr K (t + 1)) = 6 := by simp +decide only [trS, nxt, opr, tal, hs, k123, false_and, and_false, true_and, and_true, if_true, if_false]
    refine ⟨σ, ?_, by (repeat first | exact hF | apply JF.S | apply JF.A) <;> decide, fun _ => ⟨?_, ?_, ?_, ?_, ?_, ?_, ?_, ?_, ?_⟩⟩
    · rw [hS]; simp +decide only [hs, k123, cdisp, h7, p_Parser_nextInClass, p_Parser_nextInHead, p_Parser_nextInBody, p_Parser_nextInExpression, p_Parser_only, p_Parser_className, p_Outline_addClass, p_Parser_name, p_Parser_assign, p_Parser_typeName, p_Parser_memberTail, p_Parser_operand, p_Parser_open, p_Parser_tail, p_Parser_close, p_Parser_equalsSign, p_Parser_statement_b37, p_Parser_statement_b38, p_Parser_firstArgument, p_Parser_countArgument, p_Parser_countArgument_b22, p_Parser_openArguments, x1, x2, x3, x4, x5, x6, x7, x8, x40, x41, x43, x44, x46, x59, x61, x123, x125, q_bd1, q_bd2, if_pos rt, rtn, q_S1, q_A1, nI_1, if_true, if_false]
    · rw [trD]; simp [dpt, hs, k123, j6, q_S1, q_A1]
    · intro j hj; rw [trD] at hj; rw [trO]; simp [dpt, opn, hs, k123] at hj ⊢; first | exact jo j hj | (simp [q_S2, q_A2]; exact jo j hj)
    · intro z; rw [hS] at z; exact absurd z (by decide)
    · rw [trC]; simp [hs, q_S1, q_A1, j4]
    · intro z; rw [hS] at z; exact absurd z (by decide)
    · exact jr_0 jr ha (fun z => by simp [hs, k123] at z) (by simp [rbT, rb, oprR, talR, hs, k123]) (fun u => by simp [q_S2, q_A2])
    · exact ja_1 ja (fun u => by simp [q_S2, q_A2]) (fun y z => by simp [cnt, hs, k123] at z)
    · exact jt_1 jt (fun u => by simp [q_S2, q_A2]) (by rw [hs]; decide)
    · exact jc_1 jc (fun u => by simp [q_S2, q_A2]) (by rw [hs]; decide)
  have hS : cS (tr K (t + 1)) = 0 := by simp +decide only [trS, nxt, opr, tal, hs, k5, k123, false_and, and_false, true_and, and_true, if_true, if_false]
  refine ⟨σ, ?_, by (repeat first | exact hF | apply JF.S | apply JF.A) <;> decide, fun z => absurd hS z⟩
  rw [hS]; simp +decide only [hs, k5, k123, cdisp, h7, p_Parser_nextInClass, p_Parser_nextInHead, p_Parser_nextInBody, p_Parser_nextInExpression, p_Parser_only, p_Parser_className, p_Outline_addClass, p_Parser_name, p_Parser_assign, p_Parser_typeName, p_Parser_memberTail, p_Parser_operand, p_Parser_open, p_Parser_tail, p_Parser_close, p_Parser_equalsSign, p_Parser_statement_b37, p_Parser_statement_b38, p_Parser_firstArgument, p_Parser_countArgument, p_Parser_countArgument_b22, p_Parser_openArguments, x1, x2, x3, x4, x5, x6, x7, x8, x40, x41, x43, x44, x46, x59, x61, x123, x125, q_bd1, q_bd2, if_pos rt, rtn, q_S1, q_A1, nI_1, if_true, if_false]
set_option maxHeartbeats 4000000 in
theorem pa_4 {K : Nat → Int32} {N t : Nat} {σ0 σ : Sto} {x : Int32} (hT : TKC K N σ0) (hF : JF σ0 σ) (hJ : JS K σ t) (h7 : σ.1 7 = 4) (hs : cS (tr K t) = 4) (ht : t < N) (hx : SK x (K t)) : PaR K σ0 t (cdisp σ (nI t) x) := by
  have hN := hT.1
  obtain ⟨j6, jo, j9, j4, j8, jr, ja, jt, jc⟩ := hJ
  have ha : cS (tr K t) ≠ 0 := by rw [hs]; decide
  obtain ⟨x1, x2, x3, x4, x5, x6, x7, x8, x40, x41, x43, x44, x46, x59, x61, x123, x125⟩ := hx
  have rt : inR (nI t) 121 := q_inR (by omega) (by omega)
  have rtn : (nI t).toNatClampNeg = t := q_tn (by omega)
  obtain ⟨w1, w2, w3, w4, w5, w6, w7, w8, w9⟩ := WF_all t ha
  obtain ⟨g1, g2, g3, g4, g5⟩ := WG_all t ha
  rw [hs] at j9 j8 w2 w3 w5 w6 w7 w8 w9 g1 g2 g3 g4 g5
  unfold PaR
  by_cases k1 : K t = 1
  · skip
    have hS : cS (tr K (t + 1)) = 5 := by simp +decide only [trS, nxt, opr, tal, hs, k1, false_and, and_false, true_and, and_true, if_true, if_false]
    refine ⟨sA σ 9 t 6, ?_, by (repeat first | exact hF | apply JF.S | apply JF.A) <;> decide, fun _ => ⟨?_, ?_, ?_, ?_, ?_, ?_, ?_, ?_, ?_⟩⟩
    · rw [hS]; simp +decide only [hs, k1, cdisp, h7, p_Parser_nextInClass, p_Parser_nextInHead, p_Parser_nextInBody, p_Parser_nextInExpression, p_Parser_only, p_Parser_className, p_Outline_addClass, p_Parser_name, p_Parser_assign, p_Parser_typeName, p_Parser_memberTail, p_Parser_operand, p_Parser_open, p_Parser_tail, p_Parser_close, p_Parser_equalsSign, p_Parser_statement_b37, p_Parser_statement_b38, p_Parser_firstArgument, p_Parser_countArgument, p_Parser_countArgument_b22, p_Parser_openArguments, x1, x2, x3, x4, x5, x6, x7, x8, x40, x41, x43, x44, x46, x59, x61, x123, x125, q_bd1, q_bd2, if_pos rt, rtn, q_S1, q_A1, nI_1, if_true, if_false]
    · rw [trD]; simp [dpt, hs, k1, j6, q_S1, q_A1]
    · intro j hj; rw [trD] at hj; rw [trO]; simp [dpt, opn, hs, k1] at hj ⊢; first | exact jo j hj | (simp [q_S2, q_A2]; exact jo j hj)
    · intro z; rw [hS] at z; exact absurd z (by decide)
    · rw [trC]; simp [hs, q_S1, q_A1, j4]
    · intro z; rw [hS] at z; exact absurd z (by decide)
    · refine jr_1 jr ha (fun z => by simp [hs, k1] at z) (fun u => ?_); simp [rbT, rb, oprR, talR, hs, k1, q_S2, q_A2]
    · exact ja_1 ja (fun u => by simp [q_S2, q_A2]) (fun y z => by simp [cnt, hs, k1] at z)
    · exact jt_1 jt (fun u => by simp [q_S2, q_A2]) (by rw [hs]; decide)
    · exact jc_1 jc (fun u => by simp [q_S2, q_A2]) (by rw [hs]; decide)
  have hS : cS (tr K (t + 1)) = 0 := by simp +decide only [trS, nxt, opr, tal, hs, k1, false_and, and_false, true_and, and_true, if_true, if_false]
  refine ⟨σ, ?_, by (repeat first | exact hF | apply JF.S | apply JF.A) <;> decide, fun z => absurd hS z⟩
  rw [hS]; simp +decide only [hs, k1, cdisp, h7, p_Parser_nextInClass, p_Parser_nextInHead, p_Parser_nextInBody, p_Parser_nextInExpression, p_Parser_only, p_Parser_className, p_Outline_addClass, p_Parser_name, p_Parser_assign, p_Parser_typeName, p_Parser_memberTail, p_Parser_operand, p_Parser_open, p_Parser_tail, p_Parser_close, p_Parser_equalsSign, p_Parser_statement_b37, p_Parser_statement_b38, p_Parser_firstArgument, p_Parser_countArgument, p_Parser_countArgument_b22, p_Parser_openArguments, x1, x2, x3, x4, x5, x6, x7, x8, x40, x41, x43, x44, x46, x59, x61, x123, x125, q_bd1, q_bd2, if_pos rt, rtn, q_S1, q_A1, nI_1, if_true, if_false]
set_option maxHeartbeats 4000000 in
theorem pa_5 {K : Nat → Int32} {N t : Nat} {σ0 σ : Sto} {x : Int32} (hT : TKC K N σ0) (hF : JF σ0 σ) (hJ : JS K σ t) (h7 : σ.1 7 = 5) (hs : cS (tr K t) = 5) (ht : t < N) (hx : SK x (K t)) : PaR K σ0 t (cdisp σ (nI t) x) := by
  have hN := hT.1
  obtain ⟨j6, jo, j9, j4, j8, jr, ja, jt, jc⟩ := hJ
  have ha : cS (tr K t) ≠ 0 := by rw [hs]; decide
  obtain ⟨x1, x2, x3, x4, x5, x6, x7, x8, x40, x41, x43, x44, x46, x59, x61, x123, x125⟩ := hx
  have rt : inR (nI t) 121 := q_inR (by omega) (by omega)
  have rtn : (nI t).toNatClampNeg = t := q_tn (by omega)
  obtain ⟨w1, w2, w3, w4, w5, w6, w7, w8, w9⟩ := WF_all t ha
  obtain ⟨g1, g2, g3, g4, g5⟩ := WG_all t ha
  rw [hs] at j9 j8 w2 w3 w5 w6 w7 w8 w9 g1 g2 g3 g4 g5
  unfold PaR
  by_cases k123 : K t = 123
  · skip
    have hS : cS (tr K (t + 1)) = 6 := by simp +decide only [trS, nxt, opr, tal, hs, k123, false_and, and_false, true_and, and_true, if_true, if_false]
    refine ⟨σ, ?_, by (repeat first | exact hF | apply JF.S | apply JF.A) <;> decide, fun _ => ⟨?_, ?_, ?_, ?_, ?_, ?_, ?_, ?_, ?_⟩⟩
    · rw [hS]; simp +decide only [hs, k123, cdisp, h7, p_Parser_nextInClass, p_Parser_nextInHead, p_Parser_nextInBody, p_Parser_nextInExpression, p_Parser_only, p_Parser_className, p_Outline_addClass, p_Parser_name, p_Parser_assign, p_Parser_typeName, p_Parser_memberTail, p_Parser_operand, p_Parser_open, p_Parser_tail, p_Parser_close, p_Parser_equalsSign, p_Parser_statement_b37, p_Parser_statement_b38, p_Parser_firstArgument, p_Parser_countArgument, p_Parser_countArgument_b22, p_Parser_openArguments, x1, x2, x3, x4, x5, x6, x7, x8, x40, x41, x43, x44, x46, x59, x61, x123, x125, q_bd1, q_bd2, if_pos rt, rtn, q_S1, q_A1, nI_1, if_true, if_false]
    · rw [trD]; simp [dpt, hs, k123, j6, q_S1, q_A1]
    · intro j hj; rw [trD] at hj; rw [trO]; simp [dpt, opn, hs, k123] at hj ⊢; first | exact jo j hj | (simp [q_S2, q_A2]; exact jo j hj)
    · intro z; rw [hS] at z; exact absurd z (by decide)
    · rw [trC]; simp [hs, q_S1, q_A1, j4]
    · intro z; rw [hS] at z; exact absurd z (by decide)
    · exact jr_0 jr ha (fun z => by simp [hs, k123] at z) (by simp [rbT, rb, oprR, talR, hs, k123]) (fun u => by simp [q_S2, q_A2])
    · exact ja_1 ja (fun u => by simp [q_S2, q_A2]) (fun y z => by simp [cnt, hs, k123] at z)
    · exact jt_1 jt (fun u => by simp [q_S2, q_A2]) (by rw [hs]; decide)
    · exact jc_1 jc (fun u => by simp [q_S2, q_A2]) (by rw [hs]; decide)
  have hS : cS (tr K (t + 1)) = 0 := by simp +decide only [trS, nxt, opr, tal, hs, k123, false_and, and_false, true_and, and_true, if_true, if_false]
  refine ⟨σ, ?_, by (repeat first | exact hF | apply JF.S | apply JF.A) <;> decide, fun z => absurd hS z⟩
  rw [hS]; simp +decide only [hs, k123, cdisp, h7, p_Parser_nextInClass, p_Parser_nextInHead, p_Parser_nextInBody, p_Parser_nextInExpression, p_Parser_only, p_Parser_className, p_Outline_addClass, p_Parser_name, p_Parser_assign, p_Parser_typeName, p_Parser_memberTail, p_Parser_operand, p_Parser_open, p_Parser_tail, p_Parser_close, p_Parser_equalsSign, p_Parser_statement_b37, p_Parser_statement_b38, p_Parser_firstArgument, p_Parser_countArgument, p_Parser_countArgument_b22, p_Parser_openArguments, x1, x2, x3, x4, x5, x6, x7, x8, x40, x41, x43, x44, x46, x59, x61, x123, x125, q_bd1, q_bd2, if_pos rt, rtn, q_S1, q_A1, nI_1, if_true, if_false]
set_option maxHeartbeats 4000000 in
theorem pa_6 {K : Nat → Int32} {N t : Nat} {σ0 σ : Sto} {x : Int32} (hT : TKC K N σ0) (hF : JF σ0 σ) (hJ : JS K σ t) (h7 : σ.1 7 = 6) (hs : cS (tr K t) = 6) (ht : t < N) (hx : SK x (K t)) : PaR K σ0 t (cdisp σ (nI t) x) := by
  have hN := hT.1
  obtain ⟨j6, jo, j9, j4, j8, jr, ja, jt, jc⟩ := hJ
  have ha : cS (tr K t) ≠ 0 := by rw [hs]; decide
  obtain ⟨x1, x2, x3, x4, x5, x6, x7, x8, x40, x41, x43, x44, x46, x59, x61, x123, x125⟩ := hx
  have rt : inR (nI t) 121 := q_inR (by omega) (by omega)
  have rtn : (nI t).toNatClampNeg = t := q_tn (by omega)
  obtain ⟨w1, w2, w3, w4, w5, w6, w7, w8, w9⟩ := WF_all t ha
  obtain ⟨g1, g2, g3, g4, g5⟩ := WG_all t ha
  rw [hs] at j9 j8 w2 w3 w5 w6 w7 w8 w9 g1 g2 g3 g4 g5
  unfold PaR
  by_cases k125 : K t = 125
  · skip
    have hS : cS (tr K (t + 1)) = 1 := by simp +decide only [trS, nxt, opr, tal, hs, k125, false_and, and_false, true_and, and_true, if_true, if_false]
    refine ⟨σ, ?_, by (repeat first | exact hF | apply JF.S | apply JF.A) <;> decide, fun _ => ⟨?_, ?_, ?_, ?_, ?_, ?_, ?_, ?_, ?_⟩⟩
    · rw [hS]; simp +decide only [hs, k125, cdisp, h7, p_Parser_nextInClass, p_Parser_nextInHead, p_Parser_nextInBody, p_Parser_nextInExpression, p_Parser_only, p_Parser_className, p_Outline_addClass, p_Parser_name, p_Parser_assign, p_Parser_typeName, p_Parser_memberTail, p_Parser_operand, p_Parser_open, p_Parser_tail, p_Parser_close, p_Parser_equalsSign, p_Parser_statement_b37, p_Parser_statement_b38, p_Parser_firstArgument, p_Parser_countArgument, p_Parser_countArgument_b22, p_Parser_openArguments, x1, x2, x3, x4, x5, x6, x7, x8, x40, x41, x43, x44, x46, x59, x61, x123, x125, q_bd1, q_bd2, if_pos rt, rtn, q_S1, q_A1, nI_1, if_true, if_false]
    · rw [trD]; simp [dpt, hs, k125, j6, q_S1, q_A1]
    · intro j hj; rw [trD] at hj; rw [trO]; simp [dpt, opn, hs, k125] at hj ⊢; first | exact jo j hj | (simp [q_S2, q_A2]; exact jo j hj)
    · intro z; rw [hS] at z; exact absurd z (by decide)
    · rw [trC]; simp [hs, q_S1, q_A1, j4]
    · intro z; rw [hS] at z; exact absurd z (by decide)
    · exact jr_0 jr ha (fun z => by simp [hs, k125] at z) (by simp [rbT, rb, oprR, talR, hs, k125]) (fun u => by simp [q_S2, q_A2])
    · exact ja_1 ja (fun u => by simp [q_S2, q_A2]) (fun y z => by simp [cnt, hs, k125] at z)
    · exact jt_1 jt (fun u => by simp [q_S2, q_A2]) (by rw [hs]; decide)
    · exact jc_1 jc (fun u => by simp [q_S2, q_A2]) (by rw [hs]; decide)
  by_cases k3 : K t = 3
  · skip
    have hS : cS (tr K (t + 1)) = 7 := by simp +decide only [trS, nxt, opr, tal, hs, k3, false_and, and_false, true_and, and_true, if_true, if_false]
    refine ⟨σ, ?_, by (repeat first | exact hF | apply JF.S | apply JF.A) <;> decide, fun _ => ⟨?_, ?_, ?_, ?_, ?_, ?_, ?_, ?_, ?_⟩⟩
    · rw [hS]; simp +decide only [hs, k3, cdisp, h7, p_Parser_nextInClass, p_Parser_nextInHead, p_Parser_nextInBody, p_Parser_nextInExpression, p_Parser_only, p_Parser_className, p_Outline_addClass, p_Parser_name, p_Parser_assign, p_Parser_typeName, p_Parser_memberTail, p_Parser_operand, p_Parser_open, p_Parser_tail, p_Parser_close, p_Parser_equalsSign, p_Parser_statement_b37, p_Parser_statement_b38, p_Parser_firstArgument, p_Parser_countArgument, p_Parser_countArgument_b22, p_Parser_openArguments, x1, x2, x3, x4, x5, x6, x7, x8, x40, x41, x43, x44, x46, x59, x61, x123, x125, q_bd1, q_bd2, if_pos rt, rtn, q_S1, q_A1, nI_1, if_true, if_false]
    · rw [trD]; simp [dpt, hs, k3, j6, q_S1, q_A1]
    · intro j hj; rw [trD] at hj; rw [trO]; simp [dpt, opn, hs, k3] at hj ⊢; first | exact jo j hj | (simp [q_S2, q_A2]; exact jo j hj)
    · intro z; rw [hS] at z; exact absurd z (by decide)
    · rw [trC]; simp [hs, q_S1, q_A1, j4]
    · intro z; rw [hS] at z; exact absurd z (by decide)
    · exact jr_0 jr ha (fun z => by simp [hs, k3] at z) (by simp [rbT, rb, oprR, talR, hs, k3]) (fun u => by simp [q_S2, q_A2])
    · exact ja_1 ja (fun u => by simp [q_S2, q_A2]) (fun y z => by simp [cnt, hs, k3] at z)
    · exact jt_1 jt (fun u => by simp [q_S2, q_A2]) (by rw [hs]; decide)
    · exact jc_1 jc (fun u => by simp [q_S2, q_A2]) (by rw [hs]; decide)
  by_cases k1 : K t = 1
  · skip
    have hS : cS (tr K (t + 1)) = 7 := by simp +decide only [trS, nxt, opr, tal, hs, k1, false_and, and_false, true_and, and_true, if_true, if_false]
    refine ⟨sA σ 9 t 7, ?_, by (repeat first | exact hF | apply JF.S | apply JF.A) <;> decide, fun _ => ⟨?_, ?_, ?_, ?_, ?_, ?_, ?_, ?_, ?_⟩⟩
    · rw [hS]; simp +decide only [hs, k1, cdisp, h7, p_Parser_nextInClass, p_Parser_nextInHead, p_Parser_nextInBody, p_Parser_nextInExpression, p_Parser_only, p_Parser_className, p_Outline_addClass, p_Parser_name, p_Parser_assign, p_Parser_typeName, p_Parser_memberTail, p_Parser_operand, p_Parser_open, p_Parser_tail, p_Parser_close, p_Parser_equalsSign, p_Parser_statement_b37, p_Parser_statement_b38, p_Parser_firstArgument, p_Parser_countArgument, p_Parser_countArgument_b22, p_Parser_openArguments, x1, x2, x3, x4, x5, x6, x7, x8, x40, x41, x43, x44, x46, x59, x61, x123, x125, q_bd1, q_bd2, if_pos rt, rtn, q_S1, q_A1, nI_1, if_true, if_false]
    · rw [trD]; simp [dpt, hs, k1, j6, q_S1, q_A1]
    · intro j hj; rw [trD] at hj; rw [trO]; simp [dpt, opn, hs, k1] at hj ⊢; first | exact jo j hj | (simp [q_S2, q_A2]; exact jo j hj)
    · intro z; rw [hS] at z; exact absurd z (by decide)
    · rw [trC]; simp [hs, q_S1, q_A1, j4]
    · intro z; rw [hS] at z; exact absurd z (by decide)
    · refine jr_1 jr ha (fun z => by simp [hs, k1] at z) (fun u => ?_); simp [rbT, rb, oprR, talR, hs, k1, q_S2, q_A2]
    · exact ja_1 ja (fun u => by simp [q_S2, q_A2]) (fun y z => by simp [cnt, hs, k1] at z)
    · exact jt_1 jt (fun u => by simp [q_S2, q_A2]) (by rw [hs]; decide)
    · exact jc_1 jc (fun u => by simp [q_S2, q_A2]) (by rw [hs]; decide)
  have hS : cS (tr K (t + 1)) = 0 := by simp +decide only [trS, nxt, opr, tal, hs, k125, k3, k1, false_and, and_false, true_and, and_true, if_true, if_false]
  refine ⟨σ, ?_, by (repeat first | exact hF | apply JF.S | apply JF.A) <;> decide, fun z => absurd hS z⟩
  rw [hS]; simp +decide only [hs, k125, k3, k1, cdisp, h7, p_Parser_nextInClass, p_Parser_nextInHead, p_Parser_nextInBody, p_Parser_nextInExpression, p_Parser_only, p_Parser_className, p_Outline_addClass, p_Parser_name, p_Parser_assign, p_Parser_typeName, p_Parser_memberTail, p_Parser_operand, p_Parser_open, p_Parser_tail, p_Parser_close, p_Parser_equalsSign, p_Parser_statement_b37, p_Parser_statement_b38, p_Parser_firstArgument, p_Parser_countArgument, p_Parser_countArgument_b22, p_Parser_openArguments, x1, x2, x3, x4, x5, x6, x7, x8, x40, x41, x43, x44, x46, x59, x61, x123, x125, q_bd1, q_bd2, if_pos rt, rtn, q_S1, q_A1, nI_1, if_true, if_false]
set_option maxHeartbeats 4000000 in
theorem pa_7 {K : Nat → Int32} {N t : Nat} {σ0 σ : Sto} {x : Int32} (hT : TKC K N σ0) (hF : JF σ0 σ) (hJ : JS K σ t) (h7 : σ.1 7 = 7) (hs : cS (tr K t) = 7) (ht : t < N) (hx : SK x (K t)) : PaR K σ0 t (cdisp σ (nI t) x) := by
  have hN := hT.1
  obtain ⟨j6, jo, j9, j4, j8, jr, ja, jt, jc⟩ := hJ
  have ha : cS (tr K t) ≠ 0 := by rw [hs]; decide
  obtain ⟨x1, x2, x3, x4, x5, x6, x7, x8, x40, x41, x43, x44, x46, x59, x61, x123, x125⟩ := hx
  have rt : inR (nI t) 121 := q_inR (by omega) (by omega)
  have rtn : (nI t).toNatClampNeg = t := q_tn (by omega)
  obtain ⟨w1, w2, w3, w4, w5, w6, w7, w8, w9⟩ := WF_all t ha
  obtain ⟨g1, g2, g3, g4, g5⟩ := WG_all t ha
  rw [hs] at j9 j8 w2 w3 w5 w6 w7 w8 w9 g1 g2 g3 g4 g5
  unfold PaR
  by_cases k1 : K t = 1
  · skip
    have hS : cS (tr K (t + 1)) = 8 := by simp +decide only [trS, nxt, opr, tal, hs, k1, false_and, and_false, true_and, and_true, if_true, if_false]
    refine ⟨sA (sS σ 8 (nI t)) 9 t 2, ?_, by (repeat first | exact hF | apply JF.S | apply JF.A) <;> decide, fun _ => ⟨?_, ?_, ?_, ?_, ?_, ?_, ?_, ?_, ?_⟩⟩
    · rw [hS]; simp +decide only [hs, k1, cdisp, h7, p_Parser_nextInClass, p_Parser_nextInHead, p_Parser_nextInBody, p_Parser_nextInExpression, p_Parser_only, p_Parser_className, p_Outline_addClass, p_Parser_name, p_Parser_assign, p_Parser_typeName, p_Parser_memberTail, p_Parser_operand, p_Parser_open, p_Parser_tail, p_Parser_close, p_Parser_equalsSign, p_Parser_statement_b37, p_Parser_statement_b38, p_Parser_firstArgument, p_Parser_countArgument, p_Parser_countArgument_b22, p_Parser_openArguments, x1, x2, x3, x4, x5, x6, x7, x8, x40, x41, x43, x44, x46, x59, x61, x123, x125, q_bd1, q_bd2, if_pos rt, rtn, q_S1, q_A1, nI_1, if_true, if_false]
    · rw [trD]; simp [dpt, hs, k1, j6, q_S1, q_A1]
    · intro j hj; rw [trD] at hj; rw [trO]; simp [dpt, opn, hs, k1] at hj ⊢; first | exact jo j hj | (simp [q_S2, q_A2]; exact jo j hj)
    · intro z; rw [hS] at z; exact absurd z (by decide)
    · rw [trC]; simp [hs, q_S1, q_A1, j4]
    · intro _; rw [trM]; simp [hs, q_S1, q_A1]
    · refine jr_1 jr ha (fun z => by simp [hs, k1] at z) (fun u => ?_); simp [rbT, rb, oprR, talR, hs, k1, q_S2, q_A2]
    · exact ja_1 ja (fun u => by simp [q_S2, q_A2]) (fun y z => by simp [cnt, hs, k1] at z)
    · exact jt_1 jt (fun u => by simp [q_S2, q_A2]) (by rw [hs]; decide)
    · exact jc_1 jc (fun u => by simp [q_S2, q_A2]) (by rw [hs]; decide)
  have hS : cS (tr K (t + 1)) = 0 := by simp +decide only [trS, nxt, opr, tal, hs, k1, false_and, and_false, true_and, and_true, if_true, if_false]
  refine ⟨sS σ 8 (nI t), ?_, by (repeat first | exact hF | apply JF.S | apply JF.A) <;> decide, fun z => absurd hS z⟩
  rw [hS]; simp +decide only [hs, k1, cdisp, h7, p_Parser_nextInClass, p_Parser_nextInHead, p_Parser_nextInBody, p_Parser_nextInExpression, p_Parser_only, p_Parser_className, p_Outline_addClass, p_Parser_name, p_Parser_assign, p_Parser_typeName, p_Parser_memberTail, p_Parser_operand, p_Parser_open, p_Parser_tail, p_Parser_close, p_Parser_equalsSign, p_Parser_statement_b37, p_Parser_statement_b38, p_Parser_firstArgument, p_Parser_countArgument, p_Parser_countArgument_b22, p_Parser_openArguments, x1, x2, x3, x4, x5, x6, x7, x8, x40, x41, x43, x44, x46, x59, x61, x123, x125, q_bd1, q_bd2, if_pos rt, rtn, q_S1, q_A1, nI_1, if_true, if_false]
set_option maxHeartbeats 4000000 in
theorem pa_9 {K : Nat → Int32} {N t : Nat} {σ0 σ : Sto} {x : Int32} (hT : TKC K N σ0) (hF : JF σ0 σ) (hJ : JS K σ t) (h7 : σ.1 7 = 9) (hs : cS (tr K t) = 9) (ht : t < N) (hx : SK x (K t)) : PaR K σ0 t (cdisp σ (nI t) x) := by
  have hN := hT.1
  obtain ⟨j6, jo, j9, j4, j8, jr, ja, jt, jc⟩ := hJ
  have ha : cS (tr K t) ≠ 0 := by rw [hs]; decide
  obtain ⟨x1, x2, x3, x4, x5, x6, x7, x8, x40, x41, x43, x44, x46, x59, x61, x123, x125⟩ := hx
  have rt : inR (nI t) 121 := q_inR (by omega) (by omega)
  have rtn : (nI t).toNatClampNeg = t := q_tn (by omega)
  obtain ⟨w1, w2, w3, w4, w5, w6, w7, w8, w9⟩ := WF_all t ha
  obtain ⟨g1, g2, g3, g4, g5⟩ := WG_all t ha
  rw [hs] at j9 j8 w2 w3 w5 w6 w7 w8 w9 g1 g2 g3 g4 g5
  unfold PaR
  by_cases k41 : K t = 41
  · skip
    have hS : cS (tr K (t + 1)) = 13 := by simp +decide only [trS, nxt, opr, tal, hs, k41, false_and, and_false, true_and, and_true, if_true, if_false]
    refine ⟨σ, ?_, by (repeat first | exact hF | apply JF.S | apply JF.A) <;> decide, fun _ => ⟨?_, ?_, ?_, ?_, ?_, ?_, ?_, ?_, ?_⟩⟩
    · rw [hS]; simp +decide only [hs, k41, cdisp, h7, p_Parser_nextInClass, p_Parser_nextInHead, p_Parser_nextInBody, p_Parser_nextInExpression, p_Parser_only, p_Parser_className, p_Outline_addClass, p_Parser_name, p_Parser_assign, p_Parser_typeName, p_Parser_memberTail, p_Parser_operand, p_Parser_open, p_Parser_tail, p_Parser_close, p_Parser_equalsSign, p_Parser_statement_b37, p_Parser_statement_b38, p_Parser_firstArgument, p_Parser_countArgument, p_Parser_countArgument_b22, p_Parser_openArguments, x1, x2, x3, x4, x5, x6, x7, x8, x40, x41, x43, x44, x46, x59, x61, x123, x125, q_bd1, q_bd2, if_pos rt, rtn, q_S1, q_A1, nI_1, if_true, if_false]
    · rw [trD]; simp [dpt, hs, k41, j6, q_S1, q_A1]
    · intro j hj; rw [trD] at hj; rw [trO]; simp [dpt, opn, hs, k41] at hj ⊢; first | exact jo j hj | (simp [q_S2, q_A2]; exact jo j hj)
    · intro z; rw [hS] at z; exact absurd z (by decide)
    · rw [trC]; simp [hs, q_S1, q_A1, j4]
    · intro _; rw [trM]; simp [hs, q_S1, q_A1]; exact j8 (by decide)
    · exact jr_0 jr ha (fun z => by simp [hs, k41] at z) (by simp [rbT, rb, oprR, talR, hs, k41]) (fun u => by simp [q_S2, q_A2])
    · exact ja_1 ja (fun u => by simp [q_S2, q_A2]) (fun y z => by simp [cnt, hs, k41] at z)
    · exact jt_1 jt (fun u => by simp [q_S2, q_A2]) (by rw [hs]; decide)
    · exact jc_1 jc (fun u => by simp [q_S2, q_A2]) (by rw [hs]; decide)
  by_cases k3 : K t = 3
  · skip
    have hS : cS (tr K (t + 1)) = 11 := by simp +decide only [trS, nxt, opr, tal, hs, k3, false_and, and_false, true_and, and_true, if_true, if_false]
    refine ⟨σ, ?_, by (repeat first | exact hF | apply JF.S | apply JF.A) <;> decide, fun _ => ⟨?_, ?_, ?_, ?_, ?_, ?_, ?_, ?_, ?_⟩⟩
    · rw [hS]; simp +decide only [hs, k3, cdisp, h7, p_Parser_nextInClass, p_Parser_nextInHead, p_Parser_nextInBody, p_Parser_nextInExpression, p_Parser_only, p_Parser_className, p_Outline_addClass, p_Parser_name, p_Parser_assign, p_Parser_typeName, p_Parser_memberTail, p_Parser_operand, p_Parser_open, p_Parser_tail, p_Parser_close, p_Parser_equalsSign, p_Parser_statement_b37, p_Parser_statement_b38, p_Parser_firstArgument, p_Parser_countArgument, p_Parser_countArgument_b22, p_Parser_openArguments, x1, x2, x3, x4, x5, x6, x7, x8, x40, x41, x43, x44, x46, x59, x61, x123, x125, q_bd1, q_bd2, if_pos rt, rtn, q_S1, q_A1, nI_1, if_true, if_false]
    · rw [trD]; simp [dpt, hs, k3, j6, q_S1, q_A1]
    · intro j hj; rw [trD] at hj; rw [trO]; simp [dpt, opn, hs, k3] at hj ⊢; first | exact jo j hj | (simp [q_S2, q_A2]; exact jo j hj)
    · intro z; rw [hS] at z; exact absurd z (by decide)
    · rw [trC]; simp [hs, q_S1, q_A1, j4]
    · intro _; rw [trM]; simp [hs, q_S1, q_A1]; exact j8 (by decide)
    · exact jr_0 jr ha (fun z => by simp [hs, k3] at z) (by simp [rbT, rb, oprR, talR, hs, k3]) (fun u => by simp [q_S2, q_A2])
    · exact ja_1 ja (fun u => by simp [q_S2, q_A2]) (fun y z => by simp [cnt, hs, k3] at z)
    · exact jt_1 jt (fun u => by simp [q_S2, q_A2]) (by rw [hs]; decide)
    · exact jc_1 jc (fun u => by simp [q_S2, q_A2]) (by rw [hs]; decide)
  by_cases k1 : K t = 1
  · skip
    have hS : cS (tr K (t + 1)) = 11 := by simp +decide only [trS, nxt, opr, tal, hs, k1, false_and, and_false, true_and, and_true, if_true, if_false]
    refine ⟨sA σ 9 t 7, ?_, by (repeat first | exact hF | apply JF.S | apply JF.A) <;> decide, fun _ => ⟨?_, ?_, ?_, ?_, ?_, ?_, ?_, ?_, ?_⟩⟩
    · rw [hS]; simp +decide only [hs, k1, cdisp, h7, p_Parser_nextInClass, p_Parser_nextInHead, p_Parser_nextInBody, p_Parser_nextInExpression, p_Parser_only, p_Parser_className, p_Outline_addClass, p_Parser_name, p_Parser_assign, p_Parser_typeName, p_Parser_memberTail, p_Parser_operand, p_Parser_open, p_Parser_tail, p_Parser_close, p_Parser_equalsSign, p_Parser_statement_b37, p_Parser_statement_b38, p_Parser_firstArgument, p_Parser_countArgument, p_Parser_countArgument_b22, p_Parser_openArguments, x1, x2, x3, x4, x5, x6, x7, x8, x40, x41, x43, x44, x46, x59, x61, x123, x125, q_bd1, q_bd2, if_pos rt, rtn, q_S1, q_A1, nI_1, if_true, if_false]
    · rw [trD]; simp [dpt, hs, k1, j6, q_S1, q_A1]
    · intro j hj; rw [trD] at hj; rw [trO]; simp [dpt, opn, hs, k1] at hj ⊢; first | exact jo j hj | (simp [q_S2, q_A2]; exact jo j hj)
    · intro z; rw [hS] at z; exact absurd z (by decide)
    · rw [trC]; simp [hs, q_S1, q_A1, j4]
    · intro _; rw [trM]; simp [hs, q_S1, q_A1]; exact j8 (by decide)
    · refine jr_1 jr ha (fun z => by simp [hs, k1] at z) (fun u => ?_); simp [rbT, rb, oprR, talR, hs, k1, q_S2, q_A2]
    · exact ja_1 ja (fun u => by simp [q_S2, q_A2]) (fun y z => by simp [cnt, hs, k1] at z)
    · exact jt_1 jt (fun u => by simp [q_S2, q_A2]) (by rw [hs]; decide)
    · exact jc_1 jc (fun u => by simp [q_S2, q_A2]) (by rw [hs]; decide)
  have hS : cS (tr K (t + 1)) = 0 := by simp +decide only [trS, nxt, opr, tal, hs, k41, k3, k1, false_and, and_false, true_and, and_true, if_true, if_false]
  refine ⟨σ, ?_, by (repeat first | exact hF | apply JF.S | apply JF.A) <;> decide, fun z => absurd hS z⟩
  rw [hS]; simp +decide only [hs, k41, k3, k1, cdisp, h7, p_Parser_nextInClass, p_Parser_nextInHead, p_Parser_nextInBody, p_Parser_nextInExpression, p_Parser_only, p_Parser_className, p_Outline_addClass, p_Parser_name, p_Parser_assign, p_Parser_typeName, p_Parser_memberTail, p_Parser_operand, p_Parser_open, p_Parser_tail, p_Parser_close, p_Parser_equalsSign, p_Parser_statement_b37, p_Parser_statement_b38, p_Parser_firstArgument, p_Parser_countArgument, p_Parser_countArgument_b22, p_Parser_openArguments, x1, x2, x3, x4, x5, x6, x7, x8, x40, x41, x43, x44, x46, x59, x61, x123, x125, q_bd1, q_bd2, if_pos rt, rtn, q_S1, q_A1, nI_1, if_true, if_false]
set_option maxHeartbeats 4000000 in
theorem pa_10 {K : Nat → Int32} {N t : Nat} {σ0 σ : Sto} {x : Int32} (hT : TKC K N σ0) (hF : JF σ0 σ) (hJ : JS K σ t) (h7 : σ.1 7 = 10) (hs : cS (tr K t) = 10) (ht : t < N) (hx : SK x (K t)) : PaR K σ0 t (cdisp σ (nI t) x) := by
  have hN := hT.1
  obtain ⟨j6, jo, j9, j4, j8, jr, ja, jt, jc⟩ := hJ
  have ha : cS (tr K t) ≠ 0 := by rw [hs]; decide
  obtain ⟨x1, x2, x3, x4, x5, x6, x7, x8, x40, x41, x43, x44, x46, x59, x61, x123, x125⟩ := hx
  have rt : inR (nI t) 121 := q_inR (by omega) (by omega)
  have rtn : (nI t).toNatClampNeg = t := q_tn (by omega)
  obtain ⟨w1, w2, w3, w4, w5, w6, w7, w8, w9⟩ := WF_all t ha
  obtain ⟨g1, g2, g3, g4, g5⟩ := WG_all t ha
  rw [hs] at j9 j8 w2 w3 w5 w6 w7 w8 w9 g1 g2 g3 g4 g5
  unfold PaR
  by_cases k3 : K t = 3
  · skip
    have hS : cS (tr K (t + 1)) = 11 := by simp +decide only [trS, nxt, opr, tal, hs, k3, false_and, and_false, true_and, and_true, if_true, if_false]
    refine ⟨σ, ?_, by (repeat first | exact hF | apply JF.S | apply JF.A) <;> decide, fun _ => ⟨?_, ?_, ?_, ?_, ?_, ?_, ?_, ?_, ?_⟩⟩
    · rw [hS]; simp +decide only [hs, k3, cdisp, h7, p_Parser_nextInClass, p_Parser_nextInHead, p_Parser_nextInBody, p_Parser_nextInExpression, p_Parser_only, p_Parser_className, p_Outline_addClass, p_Parser_name, p_Parser_assign, p_Parser_typeName, p_Parser_memberTail, p_Parser_operand, p_Parser_open, p_Parser_tail, p_Parser_close, p_Parser_equalsSign, p_Parser_statement_b37, p_Parser_statement_b38, p_Parser_firstArgument, p_Parser_countArgument, p_Parser_countArgument_b22, p_Parser_openArguments, x1, x2, x3, x4, x5, x6, x7, x8, x40, x41, x43, x44, x46, x59, x61, x123, x125, q_bd1, q_bd2, if_pos rt, rtn, q_S1, q_A1, nI_1, if_true, if_false]
    · rw [trD]; simp [dpt, hs, k3, j6, q_S1, q_A1]
    · intro j hj; rw [trD] at hj; rw [trO]; simp [dpt, opn, hs, k3] at hj ⊢; first | exact jo j hj | (simp [q_S2, q_A2]; exact jo j hj)
    · intro z; rw [hS] at z; exact absurd z (by decide)
    · rw [trC]; simp [hs, q_S1, q_A1, j4]
    · intro _; rw [trM]; simp [hs, q_S1, q_A1]; exact j8 (by decide)
    · exact jr_0 jr ha (fun z => by simp [hs, k3] at z) (by simp [rbT, rb, oprR, talR, hs, k3]) (fun u => by simp [q_S2, q_A2])
    · exact ja_1 ja (fun u => by simp [q_S2, q_A2]) (fun y z => by simp [cnt, hs, k3] at z)
    · exact jt_1 jt (fun u => by simp [q_S2, q_A2]) (by rw [hs]; decide)
    · exact jc_1 jc (fun u => by simp [q_S2, q_A2]) (by rw [hs]; decide)
  by_cases k1 : K t = 1
  · skip
    have hS : cS (tr K (t + 1)) = 11 := by simp +decide only [trS, nxt, opr, tal, hs, k1, false_and, and_false, true_and, and_true, if_true, if_false]
    refine ⟨sA σ 9 t 7, ?_, by (repeat first | exact hF | apply JF.S | apply JF.A) <;> decide, fun _ => ⟨?_, ?_, ?_, ?_, ?_, ?_, ?_, ?_, ?_⟩⟩
    · rw [hS]; simp +decide only [hs, k1, cdisp, h7, p_Parser_nextInClass, p_Parser_nextInHead, p_Parser_nextInBody, p_Parser_nextInExpression, p_Parser_only, p_Parser_className, p_Outline_addClass, p_Parser_name, p_Parser_assign, p_Parser_typeName, p_Parser_memberTail, p_Parser_operand, p_Parser_open, p_Parser_tail, p_Parser_close, p_Parser_equalsSign, p_Parser_statement_b37, p_Parser_statement_b38, p_Parser_firstArgument, p_Parser_countArgument, p_Parser_countArgument_b22, p_Parser_openArguments, x1, x2, x3, x4, x5, x6, x7, x8, x40, x41, x43, x44, x46, x59, x61, x123, x125, q_bd1, q_bd2, if_pos rt, rtn, q_S1, q_A1, nI_1, if_true, if_false]
    · rw [trD]; simp [dpt, hs, k1, j6, q_S1, q_A1]
    · intro j hj; rw [trD] at hj; rw [trO]; simp [dpt, opn, hs, k1] at hj ⊢; first | exact jo j hj | (simp [q_S2, q_A2]; exact jo j hj)
    · intro z; rw [hS] at z; exact absurd z (by decide)
    · rw [trC]; simp [hs, q_S1, q_A1, j4]
    · intro _; rw [trM]; simp [hs, q_S1, q_A1]; exact j8 (by decide)
    · refine jr_1 jr ha (fun z => by simp [hs, k1] at z) (fun u => ?_); simp [rbT, rb, oprR, talR, hs, k1, q_S2, q_A2]
    · exact ja_1 ja (fun u => by simp [q_S2, q_A2]) (fun y z => by simp [cnt, hs, k1] at z)
    · exact jt_1 jt (fun u => by simp [q_S2, q_A2]) (by rw [hs]; decide)
    · exact jc_1 jc (fun u => by simp [q_S2, q_A2]) (by rw [hs]; decide)
  have hS : cS (tr K (t + 1)) = 0 := by simp +decide only [trS, nxt, opr, tal, hs, k3, k1, false_and, and_false, true_and, and_true, if_true, if_false]
  refine ⟨σ, ?_, by (repeat first | exact hF | apply JF.S | apply JF.A) <;> decide, fun z => absurd hS z⟩
  rw [hS]; simp +decide only [hs, k3, k1, cdisp, h7, p_Parser_nextInClass, p_Parser_nextInHead, p_Parser_nextInBody, p_Parser_nextInExpression, p_Parser_only, p_Parser_className, p_Outline_addClass, p_Parser_name, p_Parser_assign, p_Parser_typeName, p_Parser_memberTail, p_Parser_operand, p_Parser_open, p_Parser_tail, p_Parser_close, p_Parser_equalsSign, p_Parser_statement_b37, p_Parser_statement_b38, p_Parser_firstArgument, p_Parser_countArgument, p_Parser_countArgument_b22, p_Parser_openArguments, x1, x2, x3, x4, x5, x6, x7, x8, x40, x41, x43, x44, x46, x59, x61, x123, x125, q_bd1, q_bd2, if_pos rt, rtn, q_S1, q_A1, nI_1, if_true, if_false]
set_option maxHeartbeats 4000000 in
theorem pa_12 {K : Nat → Int32} {N t : Nat} {σ0 σ : Sto} {x : Int32} (hT : TKC K N σ0) (hF : JF σ0 σ) (hJ : JS K σ t) (h7 : σ.1 7 = 12) (hs : cS (tr K t) = 12) (ht : t < N) (hx : SK x (K t)) : PaR K σ0 t (cdisp σ (nI t) x) := by
  have hN := hT.1
  obtain ⟨j6, jo, j9, j4, j8, jr, ja, jt, jc⟩ := hJ
  have ha : cS (tr K t) ≠ 0 := by rw [hs]; decide
  obtain ⟨x1, x2, x3, x4, x5, x6, x7, x8, x40, x41, x43, x44, x46, x59, x61, x123, x125⟩ := hx
  have rt : inR (nI t) 121 := q_inR (by omega) (by omega)
  have rtn : (nI t).toNatClampNeg = t := q_tn (by omega)
  obtain ⟨w1, w2, w3, w4, w5, w6, w7, w8, w9⟩ := WF_all t ha
  obtain ⟨g1, g2, g3, g4, g5⟩ := WG_all t ha
  rw [hs] at j9 j8 w2 w3 w5 w6 w7 w8 w9 g1 g2 g3 g4 g5
  unfold PaR
  by_cases k44 : K t = 44
  · skip
    have hS : cS (tr K (t + 1)) = 10 := by simp +decide only [trS, nxt, opr, tal, hs, k44, false_and, and_false, true_and, and_true, if_true, if_false]
    refine ⟨σ, ?_, by (repeat first | exact hF | apply JF.S | apply JF.A) <;> decide, fun _ => ⟨?_, ?_, ?_, ?_, ?_, ?_, ?_, ?_, ?_⟩⟩
    · rw [hS]; simp +decide only [hs, k44, cdisp, h7, p_Parser_nextInClass, p_Parser_nextInHead, p_Parser_nextInBody, p_Parser_nextInExpression, p_Parser_only, p_Parser_className, p_Outline_addClass, p_Parser_name, p_Parser_assign, p_Parser_typeName, p_Parser_memberTail, p_Parser_operand, p_Parser_open, p_Parser_tail, p_Parser_close, p_Parser_equalsSign, p_Parser_statement_b37, p_Parser_statement_b38, p_Parser_firstArgument, p_Parser_countArgument, p_Parser_countArgument_b22, p_Parser_openArguments, x1, x2, x3, x4, x5, x6, x7, x8, x40, x41, x43, x44, x46, x59, x61, x123, x125, q_bd1, q_bd2, if_pos rt, rtn, q_S1, q_A1, nI_1, if_true, if_false]
    · rw [trD]; simp [dpt, hs, k44, j6, q_S1, q_A1]
    · intro j hj; rw [trD] at hj; rw [trO]; simp [dpt, opn, hs, k44] at hj ⊢; first | exact jo j hj | (simp [q_S2, q_A2]; exact jo j hj)
    · intro z; rw [hS] at z; exact absurd z (by decide)
    · rw [trC]; simp [hs, q_S1, q_A1, j4]
    · intro _; rw [trM]; simp [hs, q_S1, q_A1]; exact j8 (by decide)
    · exact jr_0 jr ha (fun z => by simp [hs, k44] at z) (by simp [rbT, rb, oprR, talR, hs, k44]) (fun u => by simp [q_S2, q_A2])
    · exact ja_1 ja (fun u => by simp [q_S2, q_A2]) (fun y z => by simp [cnt, hs, k44] at z)
    · exact jt_1 jt (fun u => by simp [q_S2, q_A2]) (by rw [hs]; decide)
    · exact jc_1 jc (fun u => by simp [q_S2, q_A2]) (by rw [hs]; decide)
  by_cases k41 : K t = 41
  · skip
    have hS : cS (tr K (t + 1)) = 13 := by simp +decide only [trS, nxt, opr, tal, hs, k41, false_and, and_false, true_and, and_true, if_true, if_false]
    refine ⟨σ, ?_, by (repeat first | exact hF | apply JF.S | apply JF.A) <;> decide, fun _ => ⟨?_, ?_, ?_, ?_, ?_, ?_, ?_, ?_, ?_⟩⟩
    · rw [hS]; simp +decide only [hs, k41, cdisp, h7, p_Parser_nextInClass, p_Parser_nextInHead, p_Parser_nextInBody, p_Parser_nextInExpression, p_Parser_only, p_Parser_className, p_Outline_addClass, p_Parser_name, p_Parser_assign, p_Parser_typeName, p_Parser_memberTail, p_Parser_operand, p_Parser_open, p_Parser_tail, p_Parser_close, p_Parser_equalsSign, p_Parser_statement_b37, p_Parser_statement_b38, p_Parser_firstArgument, p_Parser_countArgument, p_Parser_countArgument_b22, p_Parser_openArguments, x1, x2, x3, x4, x5, x6, x7, x8, x40, x41, x43, x44, x46, x59, x61, x123, x125, q_bd1, q_bd2, if_pos rt, rtn, q_S1, q_A1, nI_1, if_true, if_false]
    · rw [trD]; simp [dpt, hs, k41, j6, q_S1, q_A1]
    · intro j hj; rw [trD] at hj; rw [trO]; simp [dpt, opn, hs, k41] at hj ⊢; first | exact jo j hj | (simp [q_S2, q_A2]; exact jo j hj)
    · intro z; rw [hS] at z; exact absurd z (by decide)
    · rw [trC]; simp [hs, q_S1, q_A1, j4]
    · intro _; rw [trM]; simp [hs, q_S1, q_A1]; exact j8 (by decide)
    · exact jr_0 jr ha (fun z => by simp [hs, k41] at z) (by simp [rbT, rb, oprR, talR, hs, k41]) (fun u => by simp [q_S2, q_A2])
    · exact ja_1 ja (fun u => by simp [q_S2, q_A2]) (fun y z => by simp [cnt, hs, k41] at z)
    · exact jt_1 jt (fun u => by simp [q_S2, q_A2]) (by rw [hs]; decide)
    · exact jc_1 jc (fun u => by simp [q_S2, q_A2]) (by rw [hs]; decide)
  have hS : cS (tr K (t + 1)) = 0 := by simp +decide only [trS, nxt, opr, tal, hs, k44, k41, false_and, and_false, true_and, and_true, if_true, if_false]
  refine ⟨σ, ?_, by (repeat first | exact hF | apply JF.S | apply JF.A) <;> decide, fun z => absurd hS z⟩
  rw [hS]; simp +decide only [hs, k44, k41, cdisp, h7, p_Parser_nextInClass, p_Parser_nextInHead, p_Parser_nextInBody, p_Parser_nextInExpression, p_Parser_only, p_Parser_className, p_Outline_addClass, p_Parser_name, p_Parser_assign, p_Parser_typeName, p_Parser_memberTail, p_Parser_operand, p_Parser_open, p_Parser_tail, p_Parser_close, p_Parser_equalsSign, p_Parser_statement_b37, p_Parser_statement_b38, p_Parser_firstArgument, p_Parser_countArgument, p_Parser_countArgument_b22, p_Parser_openArguments, x1, x2, x3, x4, x5, x6, x7, x8, x40, x41, x43, x44, x46, x59, x61, x123, x125, q_bd1, q_bd2, if_pos rt, rtn, q_S1, q_A1, nI_1, if_true, if_false]
set_option maxHeartbeats 4000000 in
theorem pa_13 {K : Nat → Int32} {N t : Nat} {σ0 σ : Sto} {x : Int32} (hT : TKC K N σ0) (hF : JF σ0 σ) (hJ : JS K σ t) (h7 : σ.1 7 = 13) (hs : cS (tr K t) = 13) (ht : t < N) (hx : SK x (K t)) : PaR K σ0 t (cdisp σ (nI t) x) := by
  have hN := hT.1
  obtain ⟨j6, jo, j9, j4, j8, jr, ja, jt, jc⟩ := hJ
  have ha : cS (tr K t) ≠ 0 := by rw [hs]; decide
  obtain ⟨x1, x2, x3, x4, x5, x6, x7, x8, x40, x41, x43, x44, x46, x59, x61, x123, x125⟩ := hx
  have rt : inR (nI t) 121 := q_inR (by omega) (by omega)
  have rtn : (nI t).toNatClampNeg = t := q_tn (by omega)
  obtain ⟨w1, w2, w3, w4, w5, w6, w7, w8, w9⟩ := WF_all t ha
  obtain ⟨g1, g2, g3, g4, g5⟩ := WG_all t ha
  rw [hs] at j9 j8 w2 w3 w5 w6 w7 w8 w9 g1 g2 g3 g4 g5
  unfold PaR
  by_cases k123 : K t = 123
  · skip
    have hS : cS (tr K (t + 1)) = 14 := by simp +decide only [trS, nxt, opr, tal, hs, k123, false_and, and_false, true_and, and_true, if_true, if_false]
    refine ⟨sA σ 9 t 15, ?_, by (repeat first | exact hF | apply JF.S | apply JF.A) <;> decide, fun _ => ⟨?_, ?_, ?_, ?_, ?_, ?_, ?_, ?_, ?_⟩⟩
    · rw [hS]; simp +decide only [hs, k123, cdisp, h7, p_Parser_nextInClass, p_Parser_nextInHead, p_Parser_nextInBody, p_Parser_nextInExpression, p_Parser_only, p_Parser_className, p_Outline_addClass, p_Parser_name, p_Parser_assign, p_Parser_typeName, p_Parser_memberTail, p_Parser_operand, p_Parser_open, p_Parser_tail, p_Parser_close, p_Parser_equalsSign, p_Parser_statement_b37, p_Parser_statement_b38, p_Parser_firstArgument, p_Parser_countArgument, p_Parser_countArgument_b22, p_Parser_openArguments, x1, x2, x3, x4, x5, x6, x7, x8, x40, x41, x43, x44, x46, x59, x61, x123, x125, q_bd1, q_bd2, if_pos rt, rtn, q_S1, q_A1, nI_1, if_true, if_false]
    · rw [trD]; simp [dpt, hs, k123, j6, q_S1, q_A1]
    · intro j hj; rw [trD] at hj; rw [trO]; simp [dpt, opn, hs, k123] at hj ⊢; first | exact jo j hj | (simp [q_S2, q_A2]; exact jo j hj)
    · intro z; rw [hS] at z; exact absurd z (by decide)
    · rw [trC]; simp [hs, q_S1, q_A1, j4]
    · intro _; rw [trM]; simp [hs, q_S1, q_A1]; exact j8 (by decide)
    · refine jr_1 jr ha (fun z => by simp [hs, k123] at z) (fun u => ?_); simp [rbT, rb, oprR, talR, hs, k123, q_S2, q_A2]
    · exact ja_1 ja (fun u => by simp [q_S2, q_A2]) (fun y z => by simp [cnt, hs, k123] at z)
    · exact jt_1 jt (fun u => by simp [q_S2, q_A2]) (by rw [hs]; decide)
    · exact jc_1 jc (fun u => by simp [q_S2, q_A2]) (by rw [hs]; decide)
  have hS : cS (tr K (t + 1)) = 0 := by simp +decide only [trS, nxt, opr, tal, hs, k123, false_and, and_false, true_and, and_true, if_true, if_false]
  refine ⟨σ, ?_, by (repeat first | exact hF | apply JF.S | apply JF.A) <;> decide, fun z => absurd hS z⟩
  rw [hS]; simp +decide only [hs, k123, cdisp, h7, p_Parser_nextInClass, p_Parser_nextInHead, p_Parser_nextInBody, p_Parser_nextInExpression, p_Parser_only, p_Parser_className, p_Outline_addClass, p_Parser_name, p_Parser_assign, p_Parser_typeName, p_Parser_memberTail, p_Parser_operand, p_Parser_open, p_Parser_tail, p_Parser_close, p_Parser_equalsSign, p_Parser_statement_b37, p_Parser_statement_b38, p_Parser_firstArgument, p_Parser_countArgument, p_Parser_countArgument_b22, p_Parser_openArguments, x1, x2, x3, x4, x5, x6, x7, x8, x40, x41, x43, x44, x46, x59, x61, x123, x125, q_bd1, q_bd2, if_pos rt, rtn, q_S1, q_A1, nI_1, if_true, if_false]
set_option maxHeartbeats 4000000 in
theorem pa_15 {K : Nat → Int32} {N t : Nat} {σ0 σ : Sto} {x : Int32} (hT : TKC K N σ0) (hF : JF σ0 σ) (hJ : JS K σ t) (h7 : σ.1 7 = 15) (hs : cS (tr K t) = 15) (ht : t < N) (hx : SK x (K t)) : PaR K σ0 t (cdisp σ (nI t) x) := by
  have hN := hT.1
  obtain ⟨j6, jo, j9, j4, j8, jr, ja, jt, jc⟩ := hJ
  have ha : cS (tr K t) ≠ 0 := by rw [hs]; decide
  obtain ⟨x1, x2, x3, x4, x5, x6, x7, x8, x40, x41, x43, x44, x46, x59, x61, x123, x125⟩ := hx
  have rt : inR (nI t) 121 := q_inR (by omega) (by omega)
  have rtn : (nI t).toNatClampNeg = t := q_tn (by omega)
  obtain ⟨w1, w2, w3, w4, w5, w6, w7, w8, w9⟩ := WF_all t ha
  obtain ⟨g1, g2, g3, g4, g5⟩ := WG_all t ha
  rw [hs] at j9 j8 w2 w3 w5 w6 w7 w8 w9 g1 g2 g3 g4 g5
  unfold PaR
  by_cases k1 : K t = 1
  · skip
    have hS : cS (tr K (t + 1)) = 16 := by simp +decide only [trS, nxt, opr, tal, hs, k1, false_and, and_false, true_and, and_true, if_true, if_false]
    refine ⟨sA σ 9 t 5, ?_, by (repeat first | exact hF | apply JF.S | apply JF.A) <;> decide, fun _ => ⟨?_, ?_, ?_, ?_, ?_, ?_, ?_, ?_, ?_⟩⟩
    · rw [hS]; simp +decide only [hs, k1, cdisp, h7, p_Parser_nextInClass, p_Parser_nextInHead, p_Parser_nextInBody, p_Parser_nextInExpression, p_Parser_only, p_Parser_className, p_Outline_addClass, p_Parser_name, p_Parser_assign, p_Parser_typeName, p_Parser_memberTail, p_Parser_operand, p_Parser_open, p_Parser_tail, p_Parser_close, p_Parser_equalsSign, p_Parser_statement_b37, p_Parser_statement_b38, p_Parser_firstArgument, p_Parser_countArgument, p_Parser_countArgument_b22, p_Parser_openArguments, x1, x2, x3, x4, x5, x6, x7, x8, x40, x41, x43, x44, x46, x59, x61, x123, x125, q_bd1, q_bd2, if_pos rt, rtn, q_S1, q_A1, nI_1, if_true, if_false]
    · rw [trD]; simp [dpt, hs, k1, j6, q_S1, q_A1]
    · intro j hj; rw [trD] at hj; rw [trO]; simp [dpt, opn, hs, k1] at hj ⊢; first | exact jo j hj | (simp [q_S2, q_A2]; exact jo j hj)
    · intro _; rw [trE]; simp [eqm, hs, k1, q_S1, q_A1, b01]; exact j9 (by decide)
    · rw [trC]; simp [hs, q_S1, q_A1, j4]
    · intro _; rw [trM]; simp [hs, q_S1, q_A1]; exact j8 (by decide)
    · refine jr_1 jr ha (fun z => by simp [hs, k1] at z) (fun u => ?_); simp [rbT, rb, oprR, talR, hs, k1, q_S2, q_A2]
    · exact ja_1 ja (fun u => by simp [q_S2, q_A2]) (fun y z => by simp [cnt, hs, k1] at z)
    · exact jt_1 jt (fun u => by simp [q_S2, q_A2]) (by rw [hs]; decide)
    · exact jc_1 jc (fun u => by simp [q_S2, q_A2]) (by rw [hs]; decide)
  have hS : cS (tr K (t + 1)) = 0 := by simp +decide only [trS, nxt, opr, tal, hs, k1, false_and, and_false, true_and, and_true, if_true, if_false]
  refine ⟨σ, ?_, by (repeat first | exact hF | apply JF.S | apply JF.A) <;> decide, fun z => absurd hS z⟩
  rw [hS]; simp +decide only [hs, k1, cdisp, h7, p_Parser_nextInClass, p_Parser_nextInHead, p_Parser_nextInBody, p_Parser_nextInExpression, p_Parser_only, p_Parser_className, p_Outline_addClass, p_Parser_name, p_Parser_assign, p_Parser_typeName, p_Parser_memberTail, p_Parser_operand, p_Parser_open, p_Parser_tail, p_Parser_close, p_Parser_equalsSign, p_Parser_statement_b37, p_Parser_statement_b38, p_Parser_firstArgument, p_Parser_countArgument, p_Parser_countArgument_b22, p_Parser_openArguments, x1, x2, x3, x4, x5, x6, x7, x8, x40, x41, x43, x44, x46, x59, x61, x123, x125, q_bd1, q_bd2, if_pos rt, rtn, q_S1, q_A1, nI_1, if_true, if_false]
set_option maxHeartbeats 4000000 in
theorem pa_16 {K : Nat → Int32} {N t : Nat} {σ0 σ : Sto} {x : Int32} (hT : TKC K N σ0) (hF : JF σ0 σ) (hJ : JS K σ t) (h7 : σ.1 7 = 16) (hs : cS (tr K t) = 16) (ht : t < N) (hx : SK x (K t)) : PaR K σ0 t (cdisp σ (nI t) x) := by
  have hN := hT.1
  obtain ⟨j6, jo, j9, j4, j8, jr, ja, jt, jc⟩ := hJ
  have ha : cS (tr K t) ≠ 0 := by rw [hs]; decide
  obtain ⟨x1, x2, x3, x4, x5, x6, x7, x8, x40, x41, x43, x44, x46, x59, x61, x123, x125⟩ := hx
  have rt : inR (nI t) 121 := q_inR (by omega) (by omega)
  have rtn : (nI t).toNatClampNeg = t := q_tn (by omega)
  obtain ⟨w1, w2, w3, w4, w5, w6, w7, w8, w9⟩ := WF_all t ha
  obtain ⟨g1, g2, g3, g4, g5⟩ := WG_all t ha
  rw [hs] at j9 j8 w2 w3 w5 w6 w7 w8 w9 g1 g2 g3 g4 g5
  unfold PaR
  by_cases k61 : K t = 61
  · skip
    have hS : cS (tr K (t + 1)) = 17 := by simp +decide only [trS, nxt, opr, tal, hs, k61, false_and, and_false, true_and, and_true, if_true, if_false]
    refine ⟨sA σ 9 t 17, ?_, by (repeat first | exact hF | apply JF.S | apply JF.A) <;> decide, fun _ => ⟨?_, ?_, ?_, ?_, ?_, ?_, ?_, ?_, ?_⟩⟩
    · rw [hS]; simp +decide only [hs, k61, cdisp, h7, p_Parser_nextInClass, p_Parser_nextInHead, p_Parser_nextInBody, p_Parser_nextInExpression, p_Parser_only, p_Parser_className, p_Outline_addClass, p_Parser_name, p_Parser_assign, p_Parser_typeName, p_Parser_memberTail, p_Parser_operand, p_Parser_open, p_Parser_tail, p_Parser_close, p_Parser_equalsSign, p_Parser_statement_b37, p_Parser_statement_b38, p_Parser_firstArgument, p_Parser_countArgument, p_Parser_countArgument_b22, p_Parser_openArguments, x1, x2, x3, x4, x5, x6, x7, x8, x40, x41, x43, x44, x46, x59, x61, x123, x125, q_bd1, q_bd2, if_pos rt, rtn, q_S1, q_A1, nI_1, if_true, if_false]
    · rw [trD]; simp [dpt, hs, k61, j6, q_S1, q_A1]
    · intro j hj; rw [trD] at hj; rw [trO]; simp [dpt, opn, hs, k61] at hj ⊢; first | exact jo j hj | (simp [q_S2, q_A2]; exact jo j hj)
    · intro _; rw [trE]; simp [eqm, hs, k61, q_S1, q_A1, b01]; exact j9 (by decide)
    · rw [trC]; simp [hs, q_S1, q_A1, j4]
    · intro _; rw [trM]; simp [hs, q_S1, q_A1]; exact j8 (by decide)
    · refine jr_1 jr ha (fun z => by simp [hs, k61] at z) (fun u => ?_); simp [rbT, rb, oprR, talR, hs, k61, q_S2, q_A2]
    · exact ja_1 ja (fun u => by simp [q_S2, q_A2]) (fun y z => by simp [cnt, hs, k61] at z)
    · exact jt_1 jt (fun u => by simp [q_S2, q_A2]) (by rw [hs]; decide)
    · exact jc_1 jc (fun u => by simp [q_S2, q_A2]) (by rw [hs]; decide)
  have hS : cS (tr K (t + 1)) = 0 := by simp +decide only [trS, nxt, opr, tal, hs, k61, false_and, and_false, true_and, and_true, if_true, if_false]
  refine ⟨σ, ?_, by (repeat first | exact hF | apply JF.S | apply JF.A) <;> decide, fun z => absurd hS z⟩
  rw [hS]; simp +decide only [hs, k61, cdisp, h7, p_Parser_nextInClass, p_Parser_nextInHead, p_Parser_nextInBody, p_Parser_nextInExpression, p_Parser_only, p_Parser_className, p_Outline_addClass, p_Parser_name, p_Parser_assign, p_Parser_typeName, p_Parser_memberTail, p_Parser_operand, p_Parser_open, p_Parser_tail, p_Parser_close, p_Parser_equalsSign, p_Parser_statement_b37, p_Parser_statement_b38, p_Parser_firstArgument, p_Parser_countArgument, p_Parser_countArgument_b22, p_Parser_openArguments, x1, x2, x3, x4, x5, x6, x7, x8, x40, x41, x43, x44, x46, x59, x61, x123, x125, q_bd1, q_bd2, if_pos rt, rtn, q_S1, q_A1, nI_1, if_true, if_false]
set_option maxHeartbeats 4000000 in
theorem pa_18 {K : Nat → Int32} {N t : Nat} {σ0 σ : Sto} {x : Int32} (hT : TKC K N σ0) (hF : JF σ0 σ) (hJ : JS K σ t) (h7 : σ.1 7 = 18) (hs : cS (tr K t) = 18) (ht : t < N) (hx : SK x (K t)) : PaR K σ0 t (cdisp σ (nI t) x) := by
  have hN := hT.1
  obtain ⟨j6, jo, j9, j4, j8, jr, ja, jt, jc⟩ := hJ
  have ha : cS (tr K t) ≠ 0 := by rw [hs]; decide
  obtain ⟨x1, x2, x3, x4, x5, x6, x7, x8, x40, x41, x43, x44, x46, x59, x61, x123, x125⟩ := hx
  have rt : inR (nI t) 121 := q_inR (by omega) (by omega)
  have rtn : (nI t).toNatClampNeg = t := q_tn (by omega)
  obtain ⟨w1, w2, w3, w4, w5, w6, w7, w8, w9⟩ := WF_all t ha
  obtain ⟨g1, g2, g3, g4, g5⟩ := WG_all t ha
  rw [hs] at j9 j8 w2 w3 w5 w6 w7 w8 w9 g1 g2 g3 g4 g5
  unfold PaR
  by_cases k1 : K t = 1
  · skip
    have hS : cS (tr K (t + 1)) = 22 := by simp +decide only [trS, nxt, opr, tal, hs, k1, false_and, and_false, true_and, and_true, if_true, if_false]
    refine ⟨sA σ 9 t 8, ?_, by (repeat first | exact hF | apply JF.S | apply JF.A) <;> decide, fun _ => ⟨?_, ?_, ?_, ?_, ?_, ?_, ?_, ?_, ?_⟩⟩
    · rw [hS]; simp +decide only [hs, k1, cdisp, h7, p_Parser_nextInClass, p_Parser_nextInHead, p_Parser_nextInBody, p_Parser_nextInExpression, p_Parser_only, p_Parser_className, p_Outline_addClass, p_Parser_name, p_Parser_assign, p_Parser_typeName, p_Parser_memberTail, p_Parser_operand, p_Parser_open, p_Parser_tail, p_Parser_close, p_Parser_equalsSign, p_Parser_statement_b37, p_Parser_statement_b38, p_Parser_firstArgument, p_Parser_countArgument, p_Parser_countArgument_b22, p_Parser_openArguments, x1, x2, x3, x4, x5, x6, x7, x8, x40, x41, x43, x44, x46, x59, x61, x123, x125, q_bd1, q_bd2, if_pos rt, rtn, q_S1, q_A1, nI_1, if_true, if_false]
    · rw [trD]; simp [dpt, hs, k1, j6, q_S1, q_A1]
    · intro j hj; rw [trD] at hj; rw [trO]; simp [dpt, opn, hs, k1] at hj ⊢; first | exact jo j hj | (simp [q_S2, q_A2]; exact jo j hj)
    · intro _; rw [trE]; simp [eqm, hs, k1, q_S1, q_A1, b01]; exact j9 (by decide)
    · rw [trC]; simp [hs, q_S1, q_A1, j4]
    · intro _; rw [trM]; simp [hs, q_S1, q_A1]; exact j8 (by decide)
    · refine jr_1 jr ha (fun z => by simp [hs, k1] at z) (fun u => ?_); simp [rbT, rb, oprR, talR, hs, k1, q_S2, q_A2]
    · exact ja_1 ja (fun u => by simp [q_S2, q_A2]) (fun y z => by simp [cnt, hs, k1] at z)
    · exact jt_1 jt (fun u => by simp [q_S2, q_A2]) (by rw [hs]; decide)
    · exact jc_1 jc (fun u => by simp [q_S2, q_A2]) (by rw [hs]; decide)
  have hS : cS (tr K (t + 1)) = 0 := by simp +decide only [trS, nxt, opr, tal, hs, k1, false_and, and_false, true_and, and_true, if_true, if_false]
  refine ⟨σ, ?_, by (repeat first | exact hF | apply JF.S | apply JF.A) <;> decide, fun z => absurd hS z⟩
  rw [hS]; simp +decide only [hs, k1, cdisp, h7, p_Parser_nextInClass, p_Parser_nextInHead, p_Parser_nextInBody, p_Parser_nextInExpression, p_Parser_only, p_Parser_className, p_Outline_addClass, p_Parser_name, p_Parser_assign, p_Parser_typeName, p_Parser_memberTail, p_Parser_operand, p_Parser_open, p_Parser_tail, p_Parser_close, p_Parser_equalsSign, p_Parser_statement_b37, p_Parser_statement_b38, p_Parser_firstArgument, p_Parser_countArgument, p_Parser_countArgument_b22, p_Parser_openArguments, x1, x2, x3, x4, x5, x6, x7, x8, x40, x41, x43, x44, x46, x59, x61, x123, x125, q_bd1, q_bd2, if_pos rt, rtn, q_S1, q_A1, nI_1, if_true, if_false]
set_option maxHeartbeats 4000000 in
theorem pa_19 {K : Nat → Int32} {N t : Nat} {σ0 σ : Sto} {x : Int32} (hT : TKC K N σ0) (hF : JF σ0 σ) (hJ : JS K σ t) (h7 : σ.1 7 = 19) (hs : cS (tr K t) = 19) (ht : t < N) (hx : SK x (K t)) : PaR K σ0 t (cdisp σ (nI t) x) := by
  have hN := hT.1
  obtain ⟨j6, jo, j9, j4, j8, jr, ja, jt, jc⟩ := hJ
  have ha : cS (tr K t) ≠ 0 := by rw [hs]; decide
  obtain ⟨x1, x2, x3, x4, x5, x6, x7, x8, x40, x41, x43, x44, x46, x59, x61, x123, x125⟩ := hx
  have rt : inR (nI t) 121 := q_inR (by omega) (by omega)
  have rtn : (nI t).toNatClampNeg = t := q_tn (by omega)
  obtain ⟨w1, w2, w3, w4, w5, w6, w7, w8, w9⟩ := WF_all t ha
  obtain ⟨g1, g2, g3, g4, g5⟩ := WG_all t ha
  rw [hs] at j9 j8 w2 w3 w5 w6 w7 w8 w9 g1 g2 g3 g4 g5
  unfold PaR
  by_cases k1 : K t = 1
  · skip
    have hS : cS (tr K (t + 1)) = 20 := by simp +decide only [trS, nxt, opr, tal, hs, k1, false_and, and_false, true_and, and_true, if_true, if_false]
    refine ⟨sA σ 9 t 11, ?_, by (repeat first | exact hF | apply JF.S | apply JF.A) <;> decide, fun _ => ⟨?_, ?_, ?_, ?_, ?_, ?_, ?_, ?_, ?_⟩⟩
    · rw [hS]; simp +decide only [hs, k1, cdisp, h7, p_Parser_nextInClass, p_Parser_nextInHead, p_Parser_nextInBody, p_Parser_nextInExpression, p_Parser_only, p_Parser_className, p_Outline_addClass, p_Parser_name, p_Parser_assign, p_Parser_typeName, p_Parser_memberTail, p_Parser_operand, p_Parser_open, p_Parser_tail, p_Parser_close, p_Parser_equalsSign, p_Parser_statement_b37, p_Parser_statement_b38, p_Parser_firstArgument, p_Parser_countArgument, p_Parser_countArgument_b22, p_Parser_openArguments, x1, x2, x3, x4, x5, x6, x7, x8, x40, x41, x43, x44, x46, x59, x61, x123, x125, q_bd1, q_bd2, if_pos rt, rtn, q_S1, q_A1, nI_1, if_true, if_false]
    · rw [trD]; simp [dpt, hs, k1, j6, q_S1, q_A1]
    · intro j hj; rw [trD] at hj; rw [trO]; simp [dpt, opn, hs, k1] at hj ⊢; first | exact jo j hj | (simp [q_S2, q_A2]; exact jo j hj)
    · intro _; rw [trE]; simp [eqm, hs, k1, q_S1, q_A1, b01]; exact j9 (by decide)
    · rw [trC]; simp [hs, q_S1, q_A1, j4]
    · intro _; rw [trM]; simp [hs, q_S1, q_A1]; exact j8 (by decide)
    · refine jr_1 jr ha (fun z => by simp [hs, k1] at z) (fun u => ?_); simp [rbT, rb, oprR, talR, hs, k1, q_S2, q_A2]
    · exact ja_1 ja (fun u => by simp [q_S2, q_A2]) (fun y z => by simp [cnt, hs, k1] at z)
    · exact jt_1 jt (fun u => by simp [q_S2, q_A2]) (by rw [hs]; decide)
    · exact jc_1 jc (fun u => by simp [q_S2, q_A2]) (by rw [hs]; decide)
  have hS : cS (tr K (t + 1)) = 0 := by simp +decide only [trS, nxt, opr, tal, hs, k1, false_and, and_false, true_and, and_true, if_true, if_false]
  refine ⟨σ, ?_, by (repeat first | exact hF | apply JF.S | apply JF.A) <;> decide, fun z => absurd hS z⟩
  rw [hS]; simp +decide only [hs, k1, cdisp, h7, p_Parser_nextInClass, p_Parser_nextInHead, p_Parser_nextInBody, p_Parser_nextInExpression, p_Parser_only, p_Parser_className, p_Outline_addClass, p_Parser_name, p_Parser_assign, p_Parser_typeName, p_Parser_memberTail, p_Parser_operand, p_Parser_open, p_Parser_tail, p_Parser_close, p_Parser_equalsSign, p_Parser_statement_b37, p_Parser_statement_b38, p_Parser_firstArgument, p_Parser_countArgument, p_Parser_countArgument_b22, p_Parser_openArguments, x1, x2, x3, x4, x5, x6, x7, x8, x40, x41, x43, x44, x46, x59, x61, x123, x125, q_bd1, q_bd2, if_pos rt, rtn, q_S1, q_A1, nI_1, if_true, if_false]
