/-! MATHEMATICS 7: a new NODE -/
theorem full_lt {n : Nat} (h : n < 14) : fG_isFull n = 0 := by
  unfold fG_isFull
  rw [if_pos (show nI n < 14 from nI_lt h (by decide))]
theorem full_14 : fG_isFull 14 = 1 := by decide
theorem vpn_0 : vp_nar .boolean 0 = 0 := by decide
theorem vpn_1 : vp_nar .boolean 1 = 1 := by decide
theorem node_E {n : Nat} {E : Nat → Nat → Bool} {gE : Nat → Int32} (hG : Gr n E) (h14 : n < 14) (hE : isE n E gE) : isE (n + 1) E (lf (n + 1) 0 (st_fM_node_36 n) gE) := by
  have key := lf_inv (st := st_fM_node_36 n) (fun j (g : Nat → Int32) => ∀ a b, a < n + 1 → b < n + 1 → (a = n → b < j → g (14 * a + b) = 0) ∧ (b = n → a < j → g (14 * a + b) = 0) ∧ (a < n → b < n → g (14 * a + b) = gE (14 * a + b))) (N := n + 1) (by
    intro j g hj h a b ha hb
    obtain ⟨h1, h2, h3⟩ := h a b ha hb
    unfold st_fM_node_36
    rw [ix_at n (by omega) j (by omega), ix_at j (by omega) n (by omega), vpn_0]
    refine ⟨fun ea hbj => ?_, fun eb haj => ?_, fun han hbn => ?_⟩
    · by_cases q : 14 * a + b = 14 * j + n
      · rw [q, pk_us]
      · rw [pk_un q]
        by_cases q2 : 14 * a + b = 14 * n + j
        · rw [q2, pk_us]
        · rw [pk_un q2]
          exact h1 ea (by omega)
    · by_cases q : 14 * a + b = 14 * j + n
      · rw [q, pk_us]
      · rw [pk_un q]
        by_cases q2 : 14 * a + b = 14 * n + j
        · rw [q2, pk_us]
        · rw [pk_un q2]
          exact h2 eb (by omega)
    · rw [pk_un (by omega), pk_un (by omega)]
      exact h3 han hbn) (n + 1) 0 gE (by omega) (fun a b _ _ => ⟨fun _ h => absurd h (Nat.not_lt_zero _), fun _ h => absurd h (Nat.not_lt_zero _), fun _ _ => rfl⟩)
  intro a b ha hb
  obtain ⟨h1, h2, h3⟩ := key a b ha hb
  by_cases qa : a = n
  · rw [h1 qa hb, hG.out (by omega)]
    rfl
  · by_cases qb : b = n
    · rw [h2 qb ha, hG.2.1, hG.out (by omega)]
      rfl
    · rw [h3 (by omega) (by omega)]
      exact hE a b (by omega) (by omega)
theorem Gr.grow {n : Nat} {E : Nat → Nat → Bool} (hG : Gr n E) (h : n < 14) : Gr (n + 1) E := ⟨h, hG.2.1, hG.2.2.1, fun a b q => ⟨Nat.lt_succ_of_lt (hG.2.2.2 a b q).1, Nat.lt_succ_of_lt (hG.2.2.2 a b q).2⟩⟩
theorem cn_none {k : Nat} {p : Nat → Bool} (h : ∀ b, b < k → p b = false) : cn k p = 0 := by
  induction k with
  | zero => rfl
  | succ k ih =>
    show cn k p + _ = 0
    rw [ih (fun b hb => h b (by omega)), h k (by omega)]
    rfl
theorem Op_node_ok : Op_node Inv := by
  intro x y a1 h
  obtain ⟨E, col, hG, e, hJ, hE, hed, hP, hC, hM3, hS3, hM4, hS4, hl, hz⟩ := h
  have hn := hG.1
  have hmn : y.1 ≤ 14 := by rw [e]; exact hn
  rcases col_or a1 with ⟨c, hc, rfl⟩ | hno
  · have k1 := (isCol_nI c hc).1
    have k2 := (isCol_nI c hc).2
    by_cases h14 : x.2.2.1 < 14
    · have kf := full_lt h14
      have e1 : fP_node_n x.2.2.1 (nI c) = nI (x.2.2.1 + 1) := by
        unfold fP_node_n fG_add_n
        rw [k1, if_neg n10, kf, if_pos rfl]
      have e2 : fM_node_n y.1 (nI c) = nI (x.2.2.1 + 1) := by
        unfold fM_node_n
        rw [k2, if_neg n10, e]
        exact nI_1 _
      refine op_of (Cc_fP_node x (nI c) hn (x.2.2.1 + 1) e1) (Cc_fM_node y (nI c) hmn hz (by omega) (x.2.2.1 + 1) e2) ?_ ?_
      · unfold fP_node fM_node fG_add
        rw [k1, k2, if_neg n10, if_neg n10, kf, if_pos rfl, e, nI_1, nI_pred]
      · refine Inv_of E (fun b => if b = x.2.2.1 then c else col b) ⟨hG.grow h14, rfl, hJ, ?_, ?_, fun c' hc' => ?_, fun b hb => ?_, hM3, hS3, hM4, hS4, Or.inl ⟨?_, ?_⟩, hz⟩
        · show isE (x.2.2.1 + 1) E (fM_node_E y.1 y.2.2.2.2.1 (nI c))
          unfold fM_node_E
          rw [k2, if_neg n10, e]
          exact node_E hG h14 hE
        · show x.2.2.2.1 = nI (nEd (x.2.2.1 + 1) E)
          rw [hed]
          apply congrArg nI
          show _ = nEd x.2.2.1 E + cn x.2.2.1 (E x.2.2.1)
          rw [cn_none (fun b _ => hG.out (Nat.le_refl _))]
          rfl
        · show fP_node_P x.2.2.1 x.2.2.2.2.2.1 (nI c) c' = _
          unfold fP_node_P
          rw [k1, if_neg n10, kf, if_pos rfl]
          unfold fG_add_P
          rw [paint_P (p := fun c b => decide (b < x.2.2.1) && decide (col b = c)) (n := x.2.2.1 + 1) (by omega) (Nat.lt_succ_self _) hc hP c' hc']
          apply congrArg nI
          apply mk_ext
          intro b _
          by_cases q : c' = c
          · rw [if_pos q]
            by_cases qb : b = x.2.2.1
            · subst qb; simp [q]
            · have : (b < x.2.2.1 + 1) ↔ (b < x.2.2.1) := by omega
              simp [qb, this]
          · rw [if_neg q]
            by_cases qb : b = x.2.2.1
            · subst qb; simp; exact fun h => q h.symm
            · have : (b < x.2.2.1 + 1) ↔ (b < x.2.2.1) := by omega
              simp [qb, this]
        · show fM_node_C y.1 y.2.2.2.1 (nI c) b = _ ∧ _
          have hb' : b < x.2.2.1 + 1 := hb
          unfold fM_node_C
          rw [k2, if_neg n10, e]
          dsimp only
          by_cases q : b = x.2.2.1
          · rw [q, pk_us, if_pos rfl]
            exact ⟨rfl, hc⟩
          · rw [pk_un q, if_neg q]
            exact hC b (by omega)
        · show fM_node_h y.2.1 (nI c) = 0
          unfold fM_node_h
          rw [k2, if_neg n10]
        · show fP_node_a x.1 x.2.2.1 (nI c) = -1
          unfold fP_node_a
          rw [k1, if_neg n10, kf, if_pos rfl]
          rfl
    · have e14 : x.2.2.1 = 14 := by omega
      have kf : fG_isFull x.2.2.1 = 1 := by rw [e14]; exact full_14
      have e1 : fP_node_n x.2.2.1 (nI c) = nI x.2.2.1 := by
        unfold fP_node_n
        rw [k1, if_neg n10, kf, if_neg n10]
      refine op_of (Cc_fP_node x (nI c) hn x.2.2.1 e1) (Cc_fM_nodeF y (nI c) hmn hz (by omega)) ?_ ?_
      · unfold fP_node fM_nodeF
        rw [k1, k2, if_neg n10, if_neg n10, kf, if_neg n10]
      · refine Inv_of E col ⟨hG, e, hJ, hE, hed, ?_, hC, hM3, hS3, hM4, hS4, ?_, hz⟩
        · show isP x.2.2.1 col (fP_node_P x.2.2.1 x.2.2.2.2.2.1 (nI c))
          unfold fP_node_P
          rw [k1, if_neg n10, kf, if_neg n10]
          exact hP
        · show lat (fP_node_a x.1 x.2.2.1 (nI c)) (fP_node_b x.2.1 x.2.2.1 (nI c)) y.2.1 y.2.2.2.2.2.1 x.2.2.1 E
          unfold fP_node_a fP_node_b
          rw [k1, if_neg n10, if_neg n10, kf, if_neg n10, if_neg n10]
          exact hl
  · have k1 := (isCol_no hno).1
    have k2 := (isCol_no hno).2
    have e1 : fP_node_n x.2.2.1 a1 = nI x.2.2.1 := by
      unfold fP_node_n
      rw [k1, if_pos rfl]
    have hP' : isP x.2.2.1 col (fP_node_P x.2.2.1 x.2.2.2.2.2.1 a1) := by
      unfold fP_node_P
      rw [k1, if_pos rfl]
      exact hP
    have ea : fP_node_a x.1 x.2.2.1 a1 = x.1 := by
      unfold fP_node_a
      rw [k1, if_pos rfl]
    have eb : fP_node_b x.2.1 x.2.2.1 a1 = x.2.1 := by
      unfold fP_node_b
      rw [k1, if_pos rfl]
    by_cases h14 : x.2.2.1 < 14
    · have e2 : fM_node_n y.1 a1 = nI x.2.2.1 := by
        unfold fM_node_n
        rw [k2, if_pos rfl, e]
      refine op_of (Cc_fP_node x a1 hn x.2.2.1 e1) (Cc_fM_node y a1 hmn hz (by omega) x.2.2.1 e2) ?_ ?_
      · unfold fP_node fM_node
        rw [k1, k2, if_pos rfl, if_pos rfl]
      · refine Inv_of E col ⟨hG, rfl, hJ, ?_, hed, hP', ?_, hM3, hS3, hM4, hS4, ?_, hz⟩
        · show isE x.2.2.1 E (fM_node_E y.1 y.2.2.2.2.1 a1)
          unfold fM_node_E
          rw [k2, if_pos rfl]
          exact hE
        · show isC x.2.2.1 col (fM_node_C y.1 y.2.2.2.1 a1)
          unfold fM_node_C
          rw [k2, if_pos rfl]
          exact hC
        · show lat (fP_node_a x.1 x.2.2.1 a1) (fP_node_b x.2.1 x.2.2.1 a1) (fM_node_h y.2.1 a1) y.2.2.2.2.2.1 x.2.2.1 E
          unfold fM_node_h
          rw [ea, eb, k2, if_pos rfl]
          exact hl
    · refine op_of (Cc_fP_node x a1 hn x.2.2.1 e1) (Cc_fM_nodeF y a1 hmn hz (by omega)) ?_ ?_
      · unfold fP_node fM_nodeF
        rw [k1, k2, if_pos rfl, if_pos rfl]
      · refine Inv_of E col ⟨hG, e, hJ, hE, hed, hP', hC, hM3, hS3, hM4, hS4, ?_, hz⟩
        show lat (fP_node_a x.1 x.2.2.1 a1) (fP_node_b x.2.1 x.2.2.1 a1) y.2.1 y.2.2.2.2.2.1 x.2.2.1 E
        rw [ea, eb]
        exact hl
