theorem rb8 {K : Nat → Int32} {t : Nat} (hs : cS (tr K t) = 8) (ht : 1 ≤ t) : rbT K (t - 1) = 2 := by
  obtain ⟨u, rfl⟩ : ∃ u, t = u + 1 := ⟨t - 1, by omega⟩
  have h : cS (tr K (u + 1)) ≠ 0 := by rw [hs]; decide
  exact ((rb_20 (k := K u) (k2 := K (u + 1)) ((tr_mem K u).resolve_left (tr_alive h)) h).2).mpr hs
theorem rb20 {K : Nat → Int32} {t : Nat} (hs : cS (tr K t) = 20) (ht : 1 ≤ t) : rbT K (t - 1) = 9 ∨ rbT K (t - 1) = 11 := by
  obtain ⟨u, rfl⟩ : ∃ u, t = u + 1 := ⟨t - 1, by omega⟩
  have h : cS (tr K (u + 1)) ≠ 0 := by rw [hs]; decide
  exact ((rb_20 (k := K u) (k2 := K (u + 1)) ((tr_mem K u).resolve_left (tr_alive h)) h).1).mpr hs
theorem ro_up {K : Nat → Int32} {t : Nat} (ht : 1 ≤ t) (hk : K t = 40) : ro K (t - 1) = upR (rbT K (t - 1)) := by
  unfold ro
  rw [show t - 1 + 1 = t by omega, if_pos hk]
theorem jo_open {f o : Nat → Int32} {d : Nat} {v : Int32} (jo : ∀ j, j < d → f j = o j) (j : Nat) (hj : j < d + 1) : (if j = d then v else f j) = if j = d then v else o j := by
  by_cases e : j = d
  · rw [if_pos e, if_pos e]
  · rw [if_neg e, if_neg e]; exact jo j (by omega)
theorem jt_2 {K : Nat → Int32} {σ σ' : Sto} {t : Nat} (hj : ∀ u, σ.2.1 12 u = if u < t ∧ cS (tr K u) = 2 then nI (cC (tr K u)) else -2) (hs : cS (tr K t) = 2) (hr : ∀ u, σ'.2.1 12 u = if u = t then nI (cC (tr K t)) else σ.2.1 12 u) : ∀ u, σ'.2.1 12 u = if u < t + 1 ∧ cS (tr K u) = 2 then nI (cC (tr K u)) else -2 := fun u => by
  rw [hr, hj]
  by_cases e : u = t
  · subst e
    rw [if_pos rfl, if_pos ⟨by omega, hs⟩]
  · rw [if_neg e]
    by_cases e2 : u < t ∧ cS (tr K u) = 2
    · rw [if_pos e2, if_pos ⟨by omega, e2.2⟩]
    · rw [if_neg e2, if_neg (fun z => e2 ⟨by omega, z.2⟩)]
theorem jc_2 {K : Nat → Int32} {σ σ' : Sto} {t : Nat} (hj : ∀ u, u < t → cS (tr K u) = 2 → σ.2.1 13 (cC (tr K u)) = nI u) (hr : ∀ u, σ'.2.1 13 u = if u = cC (tr K t) then nI t else σ.2.1 13 u) : ∀ u, u < t + 1 → cS (tr K u) = 2 → σ'.2.1 13 (cC (tr K u)) = nI u := fun u hu h2 => by
  rw [hr]
  by_cases e : u = t
  · subst e; rw [if_pos rfl]
  · have h1 := cC_mono K (u + 1) t (by omega)
    rw [trC, if_pos h2] at h1
    rw [if_neg (by omega)]
    exact hj u (by omega) h2
theorem callB_t {c : Cfg} (h1 : 1 ≤ cD c) (h2 : ¬ cO c (cD c - 1) = -1) : callB c = true := by
  unfold callB
  simp [h2]
  omega
theorem callB_f {c : Cfg} (h : cD c = 0 ∨ cO c (cD c - 1) = -1) : callB c = false := by
  unfold callB
  rcases h with h | h
  · simp [h]
  · simp [h]
set_option maxHeartbeats 4000000 in
theorem pa_2 {K : Nat → Int32} {N t : Nat} {σ0 σ : Sto} {x : Int32} (hT : TKC K N σ0) (hF : JF σ0 σ) (hJ : JS K σ t) (h7 : σ.1 7 = 2) (hs : cS (tr K t) = 2) (ht : t < N) (hx : SK x (K t)) : PaR K σ0 t (cdisp σ (nI t) x) := by
  have hN := hT.1
  obtain ⟨j6, jo, j9, j4, j8, jr, ja, jt, jc⟩ := hJ
  have ha : cS (tr K t) ≠ 0 := by rw [hs]; decide
  obtain ⟨x1, x2, x3, x4, x5, x6, x7, x8, x40, x41, x43, x44, x46, x59, x61, x123, x125⟩ := hx
  have rt : inR (nI t) 121 := q_inR (by omega) (by omega)
  have rtn : (nI t).toNatClampNeg = t := q_tn (by omega)
  obtain ⟨w1, w2, w3, w4, w5, w6, w7, w8, w9⟩ := WF_all t ha
  obtain ⟨g1, g2, g3, g4, g5⟩ := WG_all t ha
  rw [hs] at j9 j8 w2 w3 w5 w6 w7 w8 w9 g1 g2 g3 g4 g5
  unfold PaR
  have hcl : cC (tr K t) < 30 := by have := g2 rfl; omega
  have c30 : ¬ ((30 : Int32) ≤ nI (cC (tr K t))) := fun z => by have : 30 ≤ cC (tr K t) := (q_Lle (by decide) (by omega)).mp z; omega
  have r31 : inR (nI (cC (tr K t))) 31 := q_inR (by omega) (by omega)
  have ctn : (nI (cC (tr K t))).toNatClampNeg = cC (tr K t) := q_tn (by omega)
  by_cases k1 : K t = 1
  · skip
    have hS : cS (tr K (t + 1)) = 3 := by simp +decide only [trS, nxt, opr, tal, hs, k1, false_and, and_false, true_and, and_true, if_true, if_false]
    refine ⟨sA (sS (sA (sA σ 12 t (nI (cC (tr K t)))) 13 (cC (tr K t)) (nI t)) 4 (nI (cC (tr K t) + 1))) 9 t 1, ?_, by (repeat first | exact hF | apply JF.S | apply JF.A) <;> decide, fun _ => ⟨?_, ?_, ?_, ?_, ?_, ?_, ?_, ?_, ?_⟩⟩
    · rw [hS]; simp +decide only [hs, k1, cdisp, h7, p_Parser_nextInClass, p_Parser_nextInHead, p_Parser_nextInBody, p_Parser_nextInExpression, p_Parser_only, p_Parser_className, p_Outline_addClass, p_Parser_name, p_Parser_assign, p_Parser_typeName, p_Parser_memberTail, p_Parser_operand, p_Parser_open, p_Parser_tail, p_Parser_close, p_Parser_equalsSign, p_Parser_statement_b37, p_Parser_statement_b38, p_Parser_firstArgument, p_Parser_countArgument, p_Parser_countArgument_b22, p_Parser_openArguments, x1, x2, x3, x4, x5, x6, x7, x8, x40, x41, x43, x44, x46, x59, x61, x123, x125, q_bd1, q_bd2, if_pos rt, rtn, q_S1, q_A1, nI_1, j4, if_neg c30, if_pos r31, ctn, if_true, if_false]
    · rw [trD]; simp [dpt, hs, k1, j6, q_S1, q_A1]
    · intro j hj; rw [trD] at hj; rw [trO]; simp [dpt, opn, hs, k1] at hj ⊢; first | exact jo j hj | (simp [q_S2, q_A2]; exact jo j hj)
    · intro z; rw [hS] at z; exact absurd z (by decide)
    · rw [trC]; simp [hs, q_S1, q_A1]
    · intro z; rw [hS] at z; exact absurd z (by decide)
    · refine jr_1 jr ha (fun z => by simp [hs, k1] at z) (fun u => ?_); simp [rbT, rb, oprR, talR, hs, k1, q_S2, q_A2]
    · exact ja_1 ja (fun u => by simp [q_S2, q_A2]) (fun y z => by simp [cnt, hs, k1] at z)
    · exact jt_2 jt hs (fun u => by simp [q_S2, q_A2])
    · exact jc_2 jc (fun u => by simp [q_S2, q_A2])
  have hS : cS (tr K (t + 1)) = 0 := by simp +decide only [trS, nxt, opr, tal, hs, k1, false_and, and_false, true_and, and_true, if_true, if_false]
  refine ⟨σ, ?_, by (repeat first | exact hF | apply JF.S | apply JF.A) <;> decide, fun z => absurd hS z⟩
  rw [hS]; simp +decide only [hs, k1, cdisp, h7, p_Parser_nextInClass, p_Parser_nextInHead, p_Parser_nextInBody, p_Parser_nextInExpression, p_Parser_only, p_Parser_className, p_Outline_addClass, p_Parser_name, p_Parser_assign, p_Parser_typeName, p_Parser_memberTail, p_Parser_operand, p_Parser_open, p_Parser_tail, p_Parser_close, p_Parser_equalsSign, p_Parser_statement_b37, p_Parser_statement_b38, p_Parser_firstArgument, p_Parser_countArgument, p_Parser_countArgument_b22, p_Parser_openArguments, x1, x2, x3, x4, x5, x6, x7, x8, x40, x41, x43, x44, x46, x59, x61, x123, x125, q_bd1, q_bd2, if_pos rt, rtn, q_S1, q_A1, nI_1, j4, if_neg c30, if_pos r31, ctn, if_true, if_false]
set_option maxHeartbeats 4000000 in
theorem pa_8 {K : Nat → Int32} {N t : Nat} {σ0 σ : Sto} {x : Int32} (hT : TKC K N σ0) (hF : JF σ0 σ) (hJ : JS K σ t) (h7 : σ.1 7 = 8) (hs : cS (tr K t) = 8) (ht : t < N) (hx : SK x (K t)) : PaR K σ0 t (cdisp σ (nI t) x) := by
  have hN := hT.1
  obtain ⟨j6, jo, j9, j4, j8, jr, ja, jt, jc⟩ := hJ
  have ha : cS (tr K t) ≠ 0 := by rw [hs]; decide
  obtain ⟨x1, x2, x3, x4, x5, x6, x7, x8, x40, x41, x43, x44, x46, x59, x61, x123, x125⟩ := hx
  have rt : inR (nI t) 121 := q_inR (by omega) (by omega)
  have rtn : (nI t).toNatClampNeg = t := q_tn (by omega)
  obtain ⟨w1, w2, w3, w4, w5, w6, w7, w8, w9⟩ := WF_all t ha
  obtain ⟨g1, g2, g3, g4, g5⟩ := WG_all t ha
  rw [hs] at j9 j8 w2 w3 w5 w6 w7 w8 w9 g1 g2 g3 g4 g5
  unfold PaR
  have hm := j8 (by decide)
  have hmt := w6 rfl
  have rm : inR (nI (cM (tr K t))) 121 := q_inR (by omega) (by omega)
  have rmn : (nI (cM (tr K t))).toNatClampNeg = cM (tr K t) := q_tn (by omega)
  by_cases k40 : K t = 40
  · skip
    have hS : cS (tr K (t + 1)) = 9 := by simp +decide only [trS, nxt, opr, tal, hs, k40, false_and, and_false, true_and, and_true, if_true, if_false]
    refine ⟨sA σ 9 (cM (tr K t)) 3, ?_, by (repeat first | exact hF | apply JF.S | apply JF.A) <;> decide, fun _ => ⟨?_, ?_, ?_, ?_, ?_, ?_, ?_, ?_, ?_⟩⟩
    · rw [hS]; simp +decide only [hs, k40, cdisp, h7, p_Parser_nextInClass, p_Parser_nextInHead, p_Parser_nextInBody, p_Parser_nextInExpression, p_Parser_only, p_Parser_className, p_Outline_addClass, p_Parser_name, p_Parser_assign, p_Parser_typeName, p_Parser_memberTail, p_Parser_operand, p_Parser_open, p_Parser_tail, p_Parser_close, p_Parser_equalsSign, p_Parser_statement_b37, p_Parser_statement_b38, p_Parser_firstArgument, p_Parser_countArgument, p_Parser_countArgument_b22, p_Parser_openArguments, x1, x2, x3, x4, x5, x6, x7, x8, x40, x41, x43, x44, x46, x59, x61, x123, x125, q_bd1, q_bd2, if_pos rt, rtn, q_S1, q_A1, nI_1, hm, if_pos rm, rmn, if_true, if_false]
    · rw [trD]; simp [dpt, hs, k40, j6, q_S1, q_A1]
    · intro j hj; rw [trD] at hj; rw [trO]; simp [dpt, opn, hs, k40] at hj ⊢; first | exact jo j hj | (simp [q_S2, q_A2]; exact jo j hj)
    · intro z; rw [hS] at z; exact absurd z (by decide)
    · rw [trC]; simp [hs, q_S1, q_A1, j4]
    · intro _; rw [trM]; simp [hs, q_S1, q_A1]; exact j8 (by decide)
    · refine jr_2 jr (by omega) (fun u => ?_); rw [q_A2, if_pos rfl]; by_cases e : u = t - 1; (rw [if_pos (by omega), if_neg (by omega), if_pos e, e, ro_up (by omega) k40, rb8 hs (by omega)]; rfl); (rw [if_neg (by omega), if_neg e]; by_cases e2 : u = t; (rw [if_pos e2, e2, jr, if_neg (by omega), if_neg (by omega)]; simp [rbT, rb, hs]); (rw [if_neg e2]))
    · exact ja_1 ja (fun u => by simp [q_S2, q_A2]) (fun y z => by simp [cnt, hs, k40] at z)
    · exact jt_1 jt (fun u => by simp [q_S2, q_A2]) (by rw [hs]; decide)
    · exact jc_1 jc (fun u => by simp [q_S2, q_A2]) (by rw [hs]; decide)
  by_cases k59 : K t = 59
  · skip
    have hS : cS (tr K (t + 1)) = 6 := by simp +decide only [trS, nxt, opr, tal, hs, k59, false_and, and_false, true_and, and_true, if_true, if_false]
    refine ⟨σ, ?_, by (repeat first | exact hF | apply JF.S | apply JF.A) <;> decide, fun _ => ⟨?_, ?_, ?_, ?_, ?_, ?_, ?_, ?_, ?_⟩⟩
    · rw [hS]; simp +decide only [hs, k59, cdisp, h7, p_Parser_nextInClass, p_Parser_nextInHead, p_Parser_nextInBody, p_Parser_nextInExpression, p_Parser_only, p_Parser_className, p_Outline_addClass, p_Parser_name, p_Parser_assign, p_Parser_typeName, p_Parser_memberTail, p_Parser_operand, p_Parser_open, p_Parser_tail, p_Parser_close, p_Parser_equalsSign, p_Parser_statement_b37, p_Parser_statement_b38, p_Parser_firstArgument, p_Parser_countArgument, p_Parser_countArgument_b22, p_Parser_openArguments, x1, x2, x3, x4, x5, x6, x7, x8, x40, x41, x43, x44, x46, x59, x61, x123, x125, q_bd1, q_bd2, if_pos rt, rtn, q_S1, q_A1, nI_1, hm, if_pos rm, rmn, if_true, if_false]
    · rw [trD]; simp [dpt, hs, k59, j6, q_S1, q_A1]
    · intro j hj; rw [trD] at hj; rw [trO]; simp [dpt, opn, hs, k59] at hj ⊢; first | exact jo j hj | (simp [q_S2, q_A2]; exact jo j hj)
    · intro z; rw [hS] at z; exact absurd z (by decide)
    · rw [trC]; simp [hs, q_S1, q_A1, j4]
    · intro z; rw [hS] at z; exact absurd z (by decide)
    · exact jr_0 jr ha (fun z => by simp [hs, k59] at z) (by simp [rbT, rb, oprR, talR, hs, k59]) (fun u => by simp [q_S2, q_A2])
    · exact ja_1 ja (fun u => by simp [q_S2, q_A2]) (fun y z => by simp [cnt, hs, k59] at z)
    · exact jt_1 jt (fun u => by simp [q_S2, q_A2]) (by rw [hs]; decide)
    · exact jc_1 jc (fun u => by simp [q_S2, q_A2]) (by rw [hs]; decide)
  have hS : cS (tr K (t + 1)) = 0 := by simp +decide only [trS, nxt, opr, tal, hs, k40, k59, false_and, and_false, true_and, and_true, if_true, if_false]
  refine ⟨σ, ?_, by (repeat first | exact hF | apply JF.S | apply JF.A) <;> decide, fun z => absurd hS z⟩
  rw [hS]; simp +decide only [hs, k40, k59, cdisp, h7, p_Parser_nextInClass, p_Parser_nextInHead, p_Parser_nextInBody, p_Parser_nextInExpression, p_Parser_only, p_Parser_className, p_Outline_addClass, p_Parser_name, p_Parser_assign, p_Parser_typeName, p_Parser_memberTail, p_Parser_operand, p_Parser_open, p_Parser_tail, p_Parser_close, p_Parser_equalsSign, p_Parser_statement_b37, p_Parser_statement_b38, p_Parser_firstArgument, p_Parser_countArgument, p_Parser_countArgument_b22, p_Parser_openArguments, x1, x2, x3, x4, x5, x6, x7, x8, x40, x41, x43, x44, x46, x59, x61, x123, x125, q_bd1, q_bd2, if_pos rt, rtn, q_S1, q_A1, nI_1, hm, if_pos rm, rmn, if_true, if_false]
set_option maxHeartbeats 4000000 in
theorem pa_11 {K : Nat → Int32} {N t : Nat} {σ0 σ : Sto} {x : Int32} (hT : TKC K N σ0) (hF : JF σ0 σ) (hJ : JS K σ t) (h7 : σ.1 7 = 11) (hs : cS (tr K t) = 11) (ht : t < N) (hx : SK x (K t)) : PaR K σ0 t (cdisp σ (nI t) x) := by
  have hN := hT.1
  obtain ⟨j6, jo, j9, j4, j8, jr, ja, jt, jc⟩ := hJ
  have ha : cS (tr K t) ≠ 0 := by rw [hs]; decide
  obtain ⟨x1, x2, x3, x4, x5, x6, x7, x8, x40, x41, x43, x44, x46, x59, x61, x123, x125⟩ := hx
  have rt : inR (nI t) 121 := q_inR (by omega) (by omega)
  have rtn : (nI t).toNatClampNeg = t := q_tn (by omega)
  obtain ⟨w1, w2, w3, w4, w5, w6, w7, w8, w9⟩ := WF_all t ha
  obtain ⟨g1, g2, g3, g4, g5⟩ := WG_all t ha
  rw [hs] at j9 j8 w2 w3 w5 w6 w7 w8 w9 g1 g2 g3 g4 g5
  unfold PaR
  have hm := j8 (by decide)
  have hmt := w5 (by decide)
  have rm : inR (nI (cM (tr K t))) 121 := q_inR (by omega) (by omega)
  have rmn : (nI (cM (tr K t))).toNatClampNeg = cM (tr K t) := q_tn (by omega)
  by_cases k1 : K t = 1
  · skip
    have hS : cS (tr K (t + 1)) = 12 := by simp +decide only [trS, nxt, opr, tal, hs, k1, false_and, and_false, true_and, and_true, if_true, if_false]
    refine ⟨sA (sA σ 10 (cM (tr K t)) (σ.2.1 10 (cM (tr K t)) + 1)) 9 t 4, ?_, by (repeat first | exact hF | apply JF.S | apply JF.A) <;> decide, fun _ => ⟨?_, ?_, ?_, ?_, ?_, ?_, ?_, ?_, ?_⟩⟩
    · rw [hS]; simp +decide only [hs, k1, cdisp, h7, p_Parser_nextInClass, p_Parser_nextInHead, p_Parser_nextInBody, p_Parser_nextInExpression, p_Parser_only, p_Parser_className, p_Outline_addClass, p_Parser_name, p_Parser_assign, p_Parser_typeName, p_Parser_memberTail, p_Parser_operand, p_Parser_open, p_Parser_tail, p_Parser_close, p_Parser_equalsSign, p_Parser_statement_b37, p_Parser_statement_b38, p_Parser_firstArgument, p_Parser_countArgument, p_Parser_countArgument_b22, p_Parser_openArguments, x1, x2, x3, x4, x5, x6, x7, x8, x40, x41, x43, x44, x46, x59, x61, x123, x125, q_bd1, q_bd2, if_pos rt, rtn, q_S1, q_A1, nI_1, hm, if_pos rm, rmn, if_true, if_false]
    · rw [trD]; simp [dpt, hs, k1, j6, q_S1, q_A1]
    · intro j hj; rw [trD] at hj; rw [trO]; simp [dpt, opn, hs, k1] at hj ⊢; first | exact jo j hj | (simp [q_S2, q_A2]; exact jo j hj)
    · intro z; rw [hS] at z; exact absurd z (by decide)
    · rw [trC]; simp [hs, q_S1, q_A1, j4]
    · intro _; rw [trM]; simp [hs, q_S1, q_A1]; exact j8 (by decide)
    · refine jr_1 jr ha (fun z => by simp [hs, k1] at z) (fun u => ?_); simp [rbT, rb, oprR, talR, hs, k1, q_S2, q_A2]
    · exact ja_2 (x := cM (tr K t)) ja (fun u => by rw [q_A2, if_neg (by decide), q_A2, if_pos rfl]; by_cases e : u = cM (tr K t); (rw [if_pos e, if_pos e, e]); (rw [if_neg e, if_neg e])) (fun y hy => by simp [cnt, hs, hy]) (by omega)
    · exact jt_1 jt (fun u => by simp [q_S2, q_A2]) (by rw [hs]; decide)
    · exact jc_1 jc (fun u => by simp [q_S2, q_A2]) (by rw [hs]; decide)
  have hS : cS (tr K (t + 1)) = 0 := by simp +decide only [trS, nxt, opr, tal, hs, k1, false_and, and_false, true_and, and_true, if_true, if_false]
  refine ⟨sA σ 10 (cM (tr K t)) (σ.2.1 10 (cM (tr K t)) + 1), ?_, by (repeat first | exact hF | apply JF.S | apply JF.A) <;> decide, fun z => absurd hS z⟩
  rw [hS]; simp +decide only [hs, k1, cdisp, h7, p_Parser_nextInClass, p_Parser_nextInHead, p_Parser_nextInBody, p_Parser_nextInExpression, p_Parser_only, p_Parser_className, p_Outline_addClass, p_Parser_name, p_Parser_assign, p_Parser_typeName, p_Parser_memberTail, p_Parser_operand, p_Parser_open, p_Parser_tail, p_Parser_close, p_Parser_equalsSign, p_Parser_statement_b37, p_Parser_statement_b38, p_Parser_firstArgument, p_Parser_countArgument, p_Parser_countArgument_b22, p_Parser_openArguments, x1, x2, x3, x4, x5, x6, x7, x8, x40, x41, x43, x44, x46, x59, x61, x123, x125, q_bd1, q_bd2, if_pos rt, rtn, q_S1, q_A1, nI_1, hm, if_pos rm, rmn, if_true, if_false]
set_option maxHeartbeats 4000000 in
theorem pa_17 {K : Nat → Int32} {N t : Nat} {σ0 σ : Sto} {x : Int32} (hT : TKC K N σ0) (hF : JF σ0 σ) (hJ : JS K σ t) (h7 : σ.1 7 = 17) (hs : cS (tr K t) = 17) (ht : t < N) (hx : SK x (K t)) : PaR K σ0 t (cdisp σ (nI t) x) := by
  have hN := hT.1
  obtain ⟨j6, jo, j9, j4, j8, jr, ja, jt, jc⟩ := hJ
  have ha : cS (tr K t) ≠ 0 := by rw [hs]; decide
  obtain ⟨x1, x2, x3, x4, x5, x6, x7, x8, x40, x41, x43, x44, x46, x59, x61, x123, x125⟩ := hx
  have rt : inR (nI t) 121 := q_inR (by omega) (by omega)
  have rtn : (nI t).toNatClampNeg = t := q_tn (by omega)
  obtain ⟨w1, w2, w3, w4, w5, w6, w7, w8, w9⟩ := WF_all t ha
  obtain ⟨g1, g2, g3, g4, g5⟩ := WG_all t ha
  rw [hs] at j9 j8 w2 w3 w5 w6 w7 w8 w9 g1 g2 g3 g4 g5
  unfold PaR
  by_cases k1 : K t = 1
  · skip
    have hS : cS (tr K (t + 1)) = 20 := by simp +decide only [trS, nxt, opr, tal, hs, k1, false_and, and_false, true_and, and_true, if_true, if_false]
    refine ⟨sA σ 9 t 9, ?_, by (repeat first | exact hF | apply JF.S | apply JF.A) <;> decide, fun _ => ⟨?_, ?_, ?_, ?_, ?_, ?_, ?_, ?_, ?_⟩⟩
    · rw [hS]; simp +decide only [hs, k1, cdisp, h7, p_Parser_nextInClass, p_Parser_nextInHead, p_Parser_nextInBody, p_Parser_nextInExpression, p_Parser_only, p_Parser_className, p_Outline_addClass, p_Parser_name, p_Parser_assign, p_Parser_typeName, p_Parser_memberTail, p_Parser_operand, p_Parser_open, p_Parser_tail, p_Parser_close, p_Parser_equalsSign, p_Parser_statement_b37, p_Parser_statement_b38, p_Parser_firstArgument, p_Parser_countArgument, p_Parser_countArgument_b22, p_Parser_openArguments, x1, x2, x3, x4, x5, x6, x7, x8, x40, x41, x43, x44, x46, x59, x61, x123, x125, q_bd1, q_bd2, if_pos rt, rtn, q_S1, q_A1, nI_1, if_true, if_false]
    · rw [trD]; simp [dpt, hs, k1, j6, q_S1, q_A1]
    · intro j hj; rw [trD] at hj; rw [trO]; simp [dpt, opn, hs, k1] at hj ⊢; first | exact jo j hj | (simp [q_S2, q_A2]; exact jo j hj)
    · intro _; rw [trE]; simp [eqm, hs, k1, q_S1, q_A1, b01]; exact j9 (by decide)
    · rw [trC]; simp [hs, q_S1, q_A1, j4]
    · intro _; rw [trM]; simp [hs, q_S1, q_A1]; exact j8 (by decide)
    · refine jr_1 jr ha (fun z => by simp [hs, k1] at z) (fun u => ?_); simp [rbT, rb, oprR, talR, hs, k1, q_S2, q_A2]
    · exact ja_1 ja (fun u => by simp [q_S2, q_A2]) (fun y z => by simp [cnt, hs, k1] at z)
    · exact jt_1 jt (fun u => by simp [q_S2, q_A2]) (by rw [hs]; decide)
    · exact jc_1 jc (fun u => by simp [q_S2, q_A2]) (by rw [hs]; decide)
  by_cases k2 : K t = 2
  · skip
    have hS : cS (tr K (t + 1)) = 22 := by simp +decide only [trS, nxt, opr, tal, hs, k2, false_and, and_false, true_and, and_true, if_true, if_false]
    refine ⟨sA σ 9 t 13, ?_, by (repeat first | exact hF | apply JF.S | apply JF.A) <;> decide, fun _ => ⟨?_, ?_, ?_, ?_, ?_, ?_, ?_, ?_, ?_⟩⟩
    · rw [hS]; simp +decide only [hs, k2, cdisp, h7, p_Parser_nextInClass, p_Parser_nextInHead, p_Parser_nextInBody, p_Parser_nextInExpression, p_Parser_only, p_Parser_className, p_Outline_addClass, p_Parser_name, p_Parser_assign, p_Parser_typeName, p_Parser_memberTail, p_Parser_operand, p_Parser_open, p_Parser_tail, p_Parser_close, p_Parser_equalsSign, p_Parser_statement_b37, p_Parser_statement_b38, p_Parser_firstArgument, p_Parser_countArgument, p_Parser_countArgument_b22, p_Parser_openArguments, x1, x2, x3, x4, x5, x6, x7, x8, x40, x41, x43, x44, x46, x59, x61, x123, x125, q_bd1, q_bd2, if_pos rt, rtn, q_S1, q_A1, nI_1, if_true, if_false]
    · rw [trD]; simp [dpt, hs, k2, j6, q_S1, q_A1]
    · intro j hj; rw [trD] at hj; rw [trO]; simp [dpt, opn, hs, k2] at hj ⊢; first | exact jo j hj | (simp [q_S2, q_A2]; exact jo j hj)
    · intro _; rw [trE]; simp [eqm, hs, k2, q_S1, q_A1, b01]; exact j9 (by decide)
    · rw [trC]; simp [hs, q_S1, q_A1, j4]
    · intro _; rw [trM]; simp [hs, q_S1, q_A1]; exact j8 (by decide)
    · refine jr_1 jr ha (fun z => by simp [hs, k2] at z) (fun u => ?_); simp [rbT, rb, oprR, talR, hs, k2, q_S2, q_A2]
    · exact ja_1 ja (fun u => by simp [q_S2, q_A2]) (fun y z => by simp [cnt, hs, k2] at z)
    · exact jt_1 jt (fun u => by simp [q_S2, q_A2]) (by rw [hs]; decide)
    · exact jc_1 jc (fun u => by simp [q_S2, q_A2]) (by rw [hs]; decide)
  by_cases k7 : K t = 7
  · skip
    have hS : cS (tr K (t + 1)) = 18 := by simp +decide only [trS, nxt, opr, tal, hs, k7, false_and, and_false, true_and, and_true, if_true, if_false]
    refine ⟨σ, ?_, by (repeat first | exact hF | apply JF.S | apply JF.A) <;> decide, fun _ => ⟨?_, ?_, ?_, ?_, ?_, ?_, ?_, ?_, ?_⟩⟩
    · rw [hS]; simp +decide only [hs, k7, cdisp, h7, p_Parser_nextInClass, p_Parser_nextInHead, p_Parser_nextInBody, p_Parser_nextInExpression, p_Parser_only, p_Parser_className, p_Outline_addClass, p_Parser_name, p_Parser_assign, p_Parser_typeName, p_Parser_memberTail, p_Parser_operand, p_Parser_open, p_Parser_tail, p_Parser_close, p_Parser_equalsSign, p_Parser_statement_b37, p_Parser_statement_b38, p_Parser_firstArgument, p_Parser_countArgument, p_Parser_countArgument_b22, p_Parser_openArguments, x1, x2, x3, x4, x5, x6, x7, x8, x40, x41, x43, x44, x46, x59, x61, x123, x125, q_bd1, q_bd2, if_pos rt, rtn, q_S1, q_A1, nI_1, if_true, if_false]
    · rw [trD]; simp [dpt, hs, k7, j6, q_S1, q_A1]
    · intro j hj; rw [trD] at hj; rw [trO]; simp [dpt, opn, hs, k7] at hj ⊢; first | exact jo j hj | (simp [q_S2, q_A2]; exact jo j hj)
    · intro _; rw [trE]; simp [eqm, hs, k7, q_S1, q_A1, b01]; exact j9 (by decide)
    · rw [trC]; simp [hs, q_S1, q_A1, j4]
    · intro _; rw [trM]; simp [hs, q_S1, q_A1]; exact j8 (by decide)
    · exact jr_0 jr ha (fun z => by simp [hs, k7] at z) (by simp [rbT, rb, oprR, talR, hs, k7]) (fun u => by simp [q_S2, q_A2])
    · exact ja_1 ja (fun u => by simp [q_S2, q_A2]) (fun y z => by simp [cnt, hs, k7] at z)
    · exact jt_1 jt (fun u => by simp [q_S2, q_A2]) (by rw [hs]; decide)
    · exact jc_1 jc (fun u => by simp [q_S2, q_A2]) (by rw [hs]; decide)
  by_cases k8 : K t = 8
  · skip
    have hS : cS (tr K (t + 1)) = 22 := by simp +decide only [trS, nxt, opr, tal, hs, k8, false_and, and_false, true_and, and_true, if_true, if_false]
    refine ⟨sA σ 9 t 14, ?_, by (repeat first | exact hF | apply JF.S | apply JF.A) <;> decide, fun _ => ⟨?_, ?_, ?_, ?_, ?_, ?_, ?_, ?_, ?_⟩⟩
    · rw [hS]; simp +decide only [hs, k8, cdisp, h7, p_Parser_nextInClass, p_Parser_nextInHead, p_Parser_nextInBody, p_Parser_nextInExpression, p_Parser_only, p_Parser_className, p_Outline_addClass, p_Parser_name, p_Parser_assign, p_Parser_typeName, p_Parser_memberTail, p_Parser_operand, p_Parser_open, p_Parser_tail, p_Parser_close, p_Parser_equalsSign, p_Parser_statement_b37, p_Parser_statement_b38, p_Parser_firstArgument, p_Parser_countArgument, p_Parser_countArgument_b22, p_Parser_openArguments, x1, x2, x3, x4, x5, x6, x7, x8, x40, x41, x43, x44, x46, x59, x61, x123, x125, q_bd1, q_bd2, if_pos rt, rtn, q_S1, q_A1, nI_1, if_true, if_false]
    · rw [trD]; simp [dpt, hs, k8, j6, q_S1, q_A1]
    · intro j hj; rw [trD] at hj; rw [trO]; simp [dpt, opn, hs, k8] at hj ⊢; first | exact jo j hj | (simp [q_S2, q_A2]; exact jo j hj)
    · intro _; rw [trE]; simp [eqm, hs, k8, q_S1, q_A1, b01]; exact j9 (by decide)
    · rw [trC]; simp [hs, q_S1, q_A1, j4]
    · intro _; rw [trM]; simp [hs, q_S1, q_A1]; exact j8 (by decide)
    · refine jr_1 jr ha (fun z => by simp [hs, k8] at z) (fun u => ?_); simp [rbT, rb, oprR, talR, hs, k8, q_S2, q_A2]
    · exact ja_1 ja (fun u => by simp [q_S2, q_A2]) (fun y z => by simp [cnt, hs, k8] at z)
    · exact jt_1 jt (fun u => by simp [q_S2, q_A2]) (by rw [hs]; decide)
    · exact jc_1 jc (fun u => by simp [q_S2, q_A2]) (by rw [hs]; decide)
  by_cases k40 : K t = 40
  · skip
    by_cases hd : cD (tr K t) < 8
    · have hd8 : nI (cD (tr K t)) < 8 := (q_ltL (by omega) (by decide)).mpr hd
      have r8 : inR (nI (cD (tr K t))) 8 := q_inR hd (by omega)
      have dtn : (nI (cD (tr K t))).toNatClampNeg = cD (tr K t) := q_tn (by omega)
      have hS : cS (tr K (t + 1)) = 17 := by simp +decide only [trS, nxt, opr, tal, hs, k40, if_pos hd, false_and, and_false, true_and, and_true, if_true, if_false, j6, if_pos hd8, if_pos r8, dtn, q_A1]
      refine ⟨sS (sA (sA σ 9 t 21) 19 (cD (tr K t)) (-1)) 6 (nI (cD (tr K t) + 1)), ?_, by (repeat first | exact hF | apply JF.S | apply JF.A) <;> decide, fun _ => ⟨?_, ?_, ?_, ?_, ?_, ?_, ?_, ?_, ?_⟩⟩
      · rw [hS]; simp +decide only [hs, k40, if_pos hd, cdisp, h7, p_Parser_nextInClass, p_Parser_nextInHead, p_Parser_nextInBody, p_Parser_nextInExpression, p_Parser_only, p_Parser_className, p_Outline_addClass, p_Parser_name, p_Parser_assign, p_Parser_typeName, p_Parser_memberTail, p_Parser_operand, p_Parser_open, p_Parser_tail, p_Parser_close, p_Parser_equalsSign, p_Parser_statement_b37, p_Parser_statement_b38, p_Parser_firstArgument, p_Parser_countArgument, p_Parser_countArgument_b22, p_Parser_openArguments, x1, x2, x3, x4, x5, x6, x7, x8, x40, x41, x43, x44, x46, x59, x61, x123, x125, q_bd1, q_bd2, if_pos rt, rtn, q_S1, q_A1, nI_1, if_true, if_false, j6, if_pos hd8, if_pos r8, dtn, q_A1]
      · rw [trD]; simp [dpt, hs, k40, q_S1]
      · intro j hj; rw [trD] at hj; rw [trO]; simp [dpt, opn, hs, k40] at hj ⊢; simp [q_S2, q_A2]; exact jo_open jo j hj
      · intro _; rw [trE]; simp [eqm, hs, k40, if_pos hd, q_S1, q_A1, b01, j6, if_pos hd8, if_pos r8, dtn, q_A1]; exact j9 (by decide)
      · rw [trC]; simp [hs, q_S1, q_A1, j4]
      · intro _; rw [trM]; simp [hs, q_S1, q_A1]; exact j8 (by decide)
      · refine jr_1 jr ha (fun z => by simp [hs, k40, if_pos hd] at z) (fun u => ?_); simp [rbT, rb, oprR, talR, hs, k40, if_pos hd, q_S2, q_A2, j6, if_pos hd8, if_pos r8, dtn, q_A1]
      · exact ja_1 ja (fun u => by simp [q_S2, q_A2]) (fun y z => by simp [cnt, hs, k40, if_pos hd] at z)
      · exact jt_1 jt (fun u => by simp [q_S2, q_A2]) (by rw [hs]; decide)
      · exact jc_1 jc (fun u => by simp [q_S2, q_A2]) (by rw [hs]; decide)
    · have hd8 : ¬ nI (cD (tr K t)) < 8 := fun z => hd ((q_ltL (by omega) (by decide)).mp z)
      have hS : cS (tr K (t + 1)) = 0 := by simp +decide only [trS, nxt, opr, tal, hs, k40, if_neg hd, false_and, and_false, true_and, and_true, if_true, if_false, j6, if_neg hd8, q_A1]
      refine ⟨sA σ 9 t 21, ?_, by (repeat first | exact hF | apply JF.S | apply JF.A) <;> decide, fun z => absurd hS z⟩
      rw [hS]; simp +decide only [hs, k40, if_neg hd, cdisp, h7, p_Parser_nextInClass, p_Parser_nextInHead, p_Parser_nextInBody, p_Parser_nextInExpression, p_Parser_only, p_Parser_className, p_Outline_addClass, p_Parser_name, p_Parser_assign, p_Parser_typeName, p_Parser_memberTail, p_Parser_operand, p_Parser_open, p_Parser_tail, p_Parser_close, p_Parser_equalsSign, p_Parser_statement_b37, p_Parser_statement_b38, p_Parser_firstArgument, p_Parser_countArgument, p_Parser_countArgument_b22, p_Parser_openArguments, x1, x2, x3, x4, x5, x6, x7, x8, x40, x41, x43, x44, x46, x59, x61, x123, x125, q_bd1, q_bd2, if_pos rt, rtn, q_S1, q_A1, nI_1, if_true, if_false, j6, if_neg hd8, q_A1]
  have hS : cS (tr K (t + 1)) = 0 := by simp +decide only [trS, nxt, opr, tal, hs, k1, k2, k7, k8, k40, false_and, and_false, true_and, and_true, if_true, if_false]
  refine ⟨σ, ?_, by (repeat first | exact hF | apply JF.S | apply JF.A) <;> decide, fun z => absurd hS z⟩
  rw [hS]; simp +decide only [hs, k1, k2, k7, k8, k40, cdisp, h7, p_Parser_nextInClass, p_Parser_nextInHead, p_Parser_nextInBody, p_Parser_nextInExpression, p_Parser_only, p_Parser_className, p_Outline_addClass, p_Parser_name, p_Parser_assign, p_Parser_typeName, p_Parser_memberTail, p_Parser_operand, p_Parser_open, p_Parser_tail, p_Parser_close, p_Parser_equalsSign, p_Parser_statement_b37, p_Parser_statement_b38, p_Parser_firstArgument, p_Parser_countArgument, p_Parser_countArgument_b22, p_Parser_openArguments, x1, x2, x3, x4, x5, x6, x7, x8, x40, x41, x43, x44, x46, x59, x61, x123, x125, q_bd1, q_bd2, if_pos rt, rtn, q_S1, q_A1, nI_1, if_true, if_false]
