/-! THE REFERENCE: hubs, wires, the whole -/
theorem pz_bd_bd {α β γ : Type} {r : pz_E α} {f : α → pz_E β} {g : β → pz_E γ} : pz_bd (pz_bd r f) g = pz_bd r (fun a => pz_bd (f a) g) := by cases r <;> rfl
theorem pz_N_n : ∀ w : Nat, w < 23 → (pz_N 1 w = 0 ∨ 2 ≤ pz_N 1 w) ∧ (pz_N 2 w = 0 ∨ 2 ≤ pz_N 2 w) := by decide +kernel
theorem rz_most {x : Int} {m : dc_M} {v : Int} {m' : dc_M} (h : D_205 x m v m') : m' = m ∧ v = (if x < 96 ∨ 181 ≤ x then 8 else 1) := by
  obtain ⟨v1, m1, ⟨v2, m2, hi, ev2, em2⟩, h⟩ := h
  obtain ⟨x1, y1⟩ := rz_in hi
  subst ev2 em2 x1
  rcases h with ⟨c, ev, em⟩ | ⟨c, ev, em⟩
  · exact ⟨em, by rw [if_pos (by omega)]; exact ev⟩
  · exact ⟨em, by rw [if_neg (by omega)]; exact ev⟩
abbrev pz_L : List Int := [4, 7, 8, 9, 13, 14, 20, 21, 22]
abbrev rz_Q (x0 : Int) (W : List (Int × Int)) (m : dc_M) (v : Int) (m' : dc_M) (t : Int → Int) (n lim : Int) (q : Int × Int) : Prop := v = q.1 ∧ (0 ≤ q.1 ∧ q.1 < 217) ∧ q.1 ≠ x0 ∧ ¬ pz_full q.1 W ∧ ∃ mz, rz_f pz_L m mz ∧ rz_S mz t n lim q.2 ∧ m' = dc_up mz 121 q.1 (pz_us q.1 W + 1)
theorem pz_us_nn (x : Int) : ∀ W : List (Int × Int), 0 ≤ pz_us x W
  | [] => Int.le_refl 0
  | a :: W => by
    have := pz_us_nn x W
    show 0 ≤ (if a.1 = x ∨ a.2 = x then 1 else 0) + pz_us x W
    split <;> omega
theorem rz_tail {hb pl x0 : Int} {m0 m : dc_M} {v : Int} {m' : dc_M} {W : List (Int × Int)} {t : Int → Int} {n lim p : Int} (h : (((hb : Int) = x0 ∧ (∃ v_203 m_208, D_199 3 (pl) m v_203 m_208 ∧ (v = (-1) ∧ m' = m_208))) ∨ (¬ ((hb : Int) = x0) ∧ ((0 ≤ (hb : Int) ∧ (hb : Int) < 217) ∧ (∃ v_241 m_246, D_205 (hb) m v_241 m_246 ∧ (((((m 121 hb) : Int) ≠ v_241 ∧ ((0 ≤ (hb : Int) ∧ (hb : Int) < 217) ∧ ((0 ≤ (hb : Int) ∧ (hb : Int) < 217) ∧ ∃ m_284, m_284 = dc_up m_246 121 hb (dc_w ((m_246 121 hb) + 1)) ∧ (v = hb ∧ m' = m_284)))) ∨ (¬ (((m 121 hb) : Int) ≠ v_241) ∧ (∃ v_303 m_308, D_199 3 (pl) m_246 v_303 m_308 ∧ (v = (-1) ∧ m' = m_308)))))))))) (hU : ∀ x : Int, 0 ≤ x → x < 217 → x ≠ x0 → m 121 x = pz_us x W) (hM : ∀ x : Int, pz_us x W ≤ (if x < 96 ∨ 181 ≤ x then 8 else 1)) (F : rz_f pz_L m0 m) (S : rz_S m t n lim p) : pz_on (if hb = x0 ∨ pz_full hb W then (.inl (3, pl) : pz_E (Int × Int)) else .inr (hb, p)) (fun f => v = -1 ∧ rz_E m' f) (rz_Q x0 W m0 v m' t n lim) := by
  rcases h with ⟨c1, v1, m1, hd, ev, em⟩ | ⟨c1, hr, v1, m1, hd, h⟩
  · rw [if_pos (Or.inl c1), em]
    exact ⟨ev, (rz_bad hd).2.1⟩
  · obtain ⟨x1, y1⟩ := rz_most hd
    subst x1
    have eu := hU hb hr.1 hr.2 c1
    have em := hM hb
    rw [eu, y1] at h
    rcases h with ⟨c2, -, -, m3, e3, ev, em3⟩ | ⟨c2, v3, m3, hd3, ev, em3⟩
    · have nf : ¬ pz_full hb W := by unfold pz_full; ((try clear h); (try clear hh); (try clear hd); (try clear ih); (try clear hn); (try clear hhub); (try clear hhub2); (try clear hsg); (try clear hsg2); (try clear hnum); (try clear hnum2); (try clear hr); omega)
      rw [if_neg (by
        intro z
        rcases z with z | z
        · exact c1 z
        · exact nf z)]
      have b9 : pz_us hb W + 1 ≤ 8 := by unfold pz_full at nf; split at nf <;> ((try clear h); (try clear hh); (try clear hd); (try clear ih); (try clear hn); (try clear hhub); (try clear hhub2); (try clear hsg); (try clear hsg2); (try clear hnum); (try clear hnum2); (try clear hr); omega)
      have b0 : 0 ≤ pz_us hb W := pz_us_nn hb W
      rw [dc_w_eq (by unfold sv_I; ((try clear h); (try clear hh); (try clear hd); (try clear ih); (try clear hn); (try clear hhub); (try clear hhub2); (try clear hsg); (try clear hsg2); (try clear hnum); (try clear hnum2); (try clear hr); omega))] at e3
      exact ⟨ev, hr, c1, nf, m1, F, S, em3.trans e3⟩
    · rw [if_pos (Or.inr (by unfold pz_full; ((try clear h); (try clear hh); (try clear hd); (try clear ih); (try clear hn); (try clear hhub); (try clear hhub2); (try clear hsg); (try clear hsg2); (try clear hnum); (try clear hnum2); (try clear hr); omega))), em3]
      exact ⟨ev, (rz_bad hd3).2.1⟩
set_option maxHeartbeats 4000000 in
theorem rz_hub {x0 : Int} {m : dc_M} {v : Int} {m' : dc_M} {W : List (Int × Int)} {t : Int → Int} {n lim p : Int} (h : D_206 x0 m v m') (S : rz_S m t n lim p) (hx : ¬ (x0 = -1 ∧ 60 ≤ (W.length : Int))) (hU : ∀ x : Int, 0 ≤ x → x < 217 → x ≠ x0 → m 121 x = pz_us x W) (hM : ∀ x : Int, pz_us x W ≤ (if x < 96 ∨ 181 ≤ x then 8 else 1)) : pz_on (pz_hub t n lim W x0 p) (fun f => v = -1 ∧ rz_E m' f) (rz_Q x0 W m v m' t n lim) := by
  have T := S.2.1
  have k1 := rz_k T (K := 1) (by ((try clear h); (try clear hh); (try clear hd); (try clear ih); (try clear hn); (try clear hhub); (try clear hhub2); (try clear hsg); (try clear hsg2); (try clear hnum); (try clear hnum2); (try clear hr); omega))
  unfold pz_hub
  rcases h with ⟨c1, v1, m1, hd, ev, em⟩ | ⟨c1, v1, m1, hh, h⟩
  · rw [if_neg (fun z => c1 (k1.mpr z.1)), em]
    rw [T.2.1] at hd
    exact ⟨ev, (rz_bad hd).2.1⟩
  · have k1 := k1.mp (by ((try clear h); (try clear hh); (try clear hd); (try clear ih); (try clear hn); (try clear hhub); (try clear hhub2); (try clear hsg); (try clear hsg2); (try clear hnum); (try clear hnum2); (try clear hr); omega))
    have e13 := T.2.2.2.1 k1
    rw [e13, Int.toNat_natCast] at hh
    obtain ⟨hlt, hw⟩ := pz_wK (lim := lim) k1 S.2.2.2
    obtain ⟨F, hi⟩ := rz_ishub hh (by ((try clear h); (try clear hh); (try clear hd); (try clear ih); (try clear hn); (try clear hhub); (try clear hhub2); (try clear hsg); (try clear hsg2); (try clear hnum); (try clear hnum2); (try clear hr); omega))
    have F' : rz_f pz_L m m1 := F.mo (by decide)
    have g8 : m1 114 8 = pz_pl t n lim p := (F.fi (by decide)).trans T.2.1
    rcases h with ⟨c2, v2, m2, hn, h⟩ | ⟨c2, v2, m2, hd, ev, em⟩
    · rcases hi with ⟨w, w23, eK, -, g20, g21, g22⟩ | ⟨-, z⟩
      · rcases hw with ⟨-, hw⟩ | ⟨w', w23', ew, eK'⟩
        · exact absurd eK (hw w w23)
        · have : w' = w := pz_K_inj w' w w23' w23 (eK'.symm.trans eK)
          subst this
          rw [if_pos ⟨k1, by ((try clear h); (try clear hh); (try clear hd); (try clear ih); (try clear hn); (try clear hhub); (try clear hhub2); (try clear hsg); (try clear hsg2); (try clear hnum); (try clear hnum2); (try clear hr); omega)⟩, if_neg hx]
          have etw : (pz_w t n lim p).toNat = w' := by ((try clear h); (try clear hh); (try clear hd); (try clear ih); (try clear hn); (try clear hhub); (try clear hhub2); (try clear hsg); (try clear hsg2); (try clear hnum); (try clear hnum2); (try clear hr); omega)
          rw [etw]
          obtain ⟨F2, S2⟩ := rz_S_next hn (S.go F (by decide))
          have G2 : rz_f pz_L m m2 := F'.tr (F2.mo (by decide))
          have U2 : ∀ x : Int, 0 ≤ x → x < 217 → x ≠ x0 → m2 121 x = pz_us x W := fun x a b c => (G2 121 x (Or.inl (by decide))).trans (hU x a b c)
          obtain ⟨b0, b1, b2⟩ := pz_N_b w' w23
          obtain ⟨n1, n2⟩ := pz_N_n w' w23
          rw [g8] at h
          unfold pz_hn
          rcases h with ⟨c3, h⟩ | ⟨c3, v3, m3, hnum, h⟩
          · have z1 : pz_N 1 w' = 0 := by
              rw [g21] at c3
              split at c3
              · assumption
              · ((try clear h); (try clear hh); (try clear hd); (try clear ih); (try clear hn); (try clear hhub); (try clear hhub2); (try clear hsg); (try clear hsg2); (try clear hnum); (try clear hnum2); (try clear hr); omega)
            rw [if_pos z1]
            rw [g20] at h
            exact rz_tail h U2 hM G2 S2
          · have z1 : pz_N 1 w' ≠ 0 := fun z => by rw [g21, if_pos z] at c3; ((try clear h); (try clear hh); (try clear hd); (try clear ih); (try clear hn); (try clear hhub); (try clear hhub2); (try clear hsg); (try clear hsg2); (try clear hnum); (try clear hnum2); (try clear hr); omega)
            rw [g21, if_neg z1] at hnum
            rw [if_neg z1, pz_bd_bd]
            have q := rz_num hnum S2
            refine pz_on_bd (fun f e => ?_) (fun a e => ?_)
            · obtain ⟨q1, q2⟩ := pz_on_l q e
              rcases h with ⟨c4, -⟩ | ⟨c4, ev, em⟩
              · exact absurd q1 c4
              · rw [em]; exact ⟨ev, q2⟩
            · obtain ⟨q1, q14, q2, q3, S3⟩ := pz_on_r q e
              obtain ⟨a, p1⟩ := a
              have q14 : m3 114 14 = a := q14
              have q2 : 1 ≤ a ∧ a ≤ pz_N 1 w' := q2
              have S3 : rz_S m3 t n lim p1 := S3
              have G3 : rz_f pz_L m m3 := G2.tr (q3.mo (by decide))
              have U3 : ∀ x : Int, 0 ≤ x → x < 217 → x ≠ x0 → m3 121 x = pz_us x W := fun x a b c => (G3 121 x (Or.inl (by decide))).trans (hU x a b c)
              show pz_on (pz_bd (pz_hn2 t n lim w' a p1) _) _ _
              rcases h with ⟨c4, h⟩ | ⟨c4, -⟩
              · unfold pz_hn2
                rcases h with ⟨c5, h⟩ | ⟨c5, v4, m4, hsg, h⟩
                · have z2 : pz_N 2 w' = 0 := by
                    rw [g22] at c5
                    split at c5
                    · assumption
                    · ((try clear h); (try clear hh); (try clear hd); (try clear ih); (try clear hn); (try clear hhub); (try clear hhub2); (try clear hsg); (try clear hsg2); (try clear hnum); (try clear hnum2); (try clear hr); omega)
                  rw [if_pos z2]
                  have eh : dc_w (m1 114 20 + dc_w (dc_w (m3 114 14 - 1) * m1 114 22)) = pz_N 0 w' + a - 1 := by
                    rw [g20, g22, if_pos z2, q14, dc_w_eq (z := a - 1) (by unfold sv_I; ((try clear h); (try clear hh); (try clear hd); (try clear ih); (try clear hn); (try clear hhub); (try clear hhub2); (try clear hsg); (try clear hsg2); (try clear hnum); (try clear hnum2); (try clear hr); omega)), Int.mul_one, dc_w_eq (z := a - 1) (by unfold sv_I; ((try clear h); (try clear hh); (try clear hd); (try clear ih); (try clear hn); (try clear hhub); (try clear hhub2); (try clear hsg); (try clear hsg2); (try clear hnum); (try clear hnum2); (try clear hr); omega)), dc_w_eq (by unfold sv_I; ((try clear h); (try clear hh); (try clear hd); (try clear ih); (try clear hn); (try clear hhub); (try clear hhub2); (try clear hsg); (try clear hsg2); (try clear hnum); (try clear hnum2); (try clear hr); omega))]
                    ((try clear h); (try clear hh); (try clear hd); (try clear ih); (try clear hn); (try clear hhub); (try clear hhub2); (try clear hsg); (try clear hsg2); (try clear hnum); (try clear hnum2); (try clear hr); omega)
                  rw [eh] at h
                  exact rz_tail h U3 hM G3 S3
                · have z2 : pz_N 2 w' ≠ 0 := fun z => by rw [g22, if_pos z] at c5; ((try clear h); (try clear hh); (try clear hd); (try clear ih); (try clear hn); (try clear hhub); (try clear hhub2); (try clear hsg); (try clear hsg2); (try clear hnum); (try clear hnum2); (try clear hr); omega)
                  have g22 : m1 114 22 = pz_N 2 w' := by rw [g22, if_neg z2]
                  rw [if_neg z2, pz_bd_bd]
                  have r := rz_sgn hsg S3
                  have j0 : 0 ≤ (a - 1) * pz_N 2 w' := Int.mul_nonneg (by ((try clear h); (try clear hh); (try clear hd); (try clear ih); (try clear hn); (try clear hhub); (try clear hhub2); (try clear hsg); (try clear hsg2); (try clear hnum); (try clear hnum2); (try clear hr); omega)) (by ((try clear h); (try clear hh); (try clear hd); (try clear ih); (try clear hn); (try clear hhub); (try clear hhub2); (try clear hsg); (try clear hsg2); (try clear hnum); (try clear hnum2); (try clear hr); omega))
                  have j1 : (a - 1) * pz_N 2 w' ≤ 19 * 6 := Int.mul_le_mul (by ((try clear h); (try clear hh); (try clear hd); (try clear ih); (try clear hn); (try clear hhub); (try clear hhub2); (try clear hsg); (try clear hsg2); (try clear hnum); (try clear hnum2); (try clear hr); omega)) (by ((try clear h); (try clear hh); (try clear hd); (try clear ih); (try clear hn); (try clear hhub); (try clear hhub2); (try clear hsg); (try clear hsg2); (try clear hnum); (try clear hnum2); (try clear hr); omega)) (by ((try clear h); (try clear hh); (try clear hd); (try clear ih); (try clear hn); (try clear hhub); (try clear hhub2); (try clear hsg); (try clear hsg2); (try clear hnum); (try clear hnum2); (try clear hr); omega)) (by ((try clear h); (try clear hh); (try clear hd); (try clear ih); (try clear hn); (try clear hhub); (try clear hhub2); (try clear hsg); (try clear hsg2); (try clear hnum); (try clear hnum2); (try clear hr); omega))
                  refine pz_on_bd (fun f e => ?_) (fun p2 e => ?_)
                  · obtain ⟨r1, r2⟩ := pz_on_l r e
                    rcases h with ⟨c6, ev, em⟩ | ⟨c6, -⟩
                    · rw [em]; exact ⟨ev, r2⟩
                    · exact absurd r1 c6
                  · obtain ⟨r1, r2, S4⟩ := pz_on_r r e
                    have G4 : rz_f pz_L m m4 := G3.tr (r2.mo (by decide))
                    rcases h with ⟨c6, -⟩ | ⟨c6, v5, m5, hnum2, h⟩
                    · exfalso; ((try clear h); (try clear hh); (try clear hd); (try clear ih); (try clear hn); (try clear hhub); (try clear hhub2); (try clear hsg); (try clear hsg2); (try clear hnum); (try clear hnum2); (try clear hr); omega)
                    · rw [g22] at hnum2
                      unfold pz_hn3
                      rw [pz_bd_bd]
                      have s := rz_num hnum2 S4
                      refine pz_on_bd (fun f e => ?_) (fun b e => ?_)
                      · obtain ⟨s1, s2⟩ := pz_on_l s e
                        rcases h with ⟨c7, -⟩ | ⟨c7, ev, em⟩
                        · exact absurd s1 c7
                        · rw [em]; exact ⟨ev, s2⟩
                      · obtain ⟨s1, s14, s2, s3, S5⟩ := pz_on_r s e
                        obtain ⟨b, p3⟩ := b
                        have s14 : m5 114 14 = b := s14
                        have s2 : 1 ≤ b ∧ b ≤ pz_N 2 w' := s2
                        have S5 : rz_S m5 t n lim p3 := S5
                        have G5 : rz_f pz_L m m5 := G4.tr (s3.mo (by decide))
                        have U5 : ∀ x : Int, 0 ≤ x → x < 217 → x ≠ x0 → m5 121 x = pz_us x W := fun x a b c => (G5 121 x (Or.inl (by decide))).trans (hU x a b c)
                        rcases h with ⟨c7, h⟩ | ⟨c7, -⟩
                        · have eh : dc_w (dc_w (m1 114 20 + dc_w (dc_w (m3 114 14 - 1) * m1 114 22)) + dc_w (m5 114 14 - 1)) = pz_N 0 w' + (a - 1) * pz_N 2 w' + b - 1 := by
                            rw [g20, g22, q14, s14, dc_w_eq (z := a - 1) (by unfold sv_I; ((try clear h); (try clear hh); (try clear hd); (try clear ih); (try clear hn); (try clear hhub); (try clear hhub2); (try clear hsg); (try clear hsg2); (try clear hnum); (try clear hnum2); (try clear hr); omega)), dc_w_eq (z := (a - 1) * pz_N 2 w') (by unfold sv_I; ((try clear h); (try clear hh); (try clear hd); (try clear ih); (try clear hn); (try clear hhub); (try clear hhub2); (try clear hsg); (try clear hsg2); (try clear hnum); (try clear hnum2); (try clear hr); omega)), dc_w_eq (z := pz_N 0 w' + (a - 1) * pz_N 2 w') (by unfold sv_I; ((try clear h); (try clear hh); (try clear hd); (try clear ih); (try clear hn); (try clear hhub); (try clear hhub2); (try clear hsg); (try clear hsg2); (try clear hnum); (try clear hnum2); (try clear hr); omega)), dc_w_eq (z := b - 1) (by unfold sv_I; ((try clear h); (try clear hh); (try clear hd); (try clear ih); (try clear hn); (try clear hhub); (try clear hhub2); (try clear hsg); (try clear hsg2); (try clear hnum); (try clear hnum2); (try clear hr); omega)), dc_w_eq (by unfold sv_I; ((try clear h); (try clear hh); (try clear hd); (try clear ih); (try clear hn); (try clear hhub); (try clear hhub2); (try clear hsg); (try clear hsg2); (try clear hnum); (try clear hnum2); (try clear hr); omega))]
                            ((try clear h); (try clear hh); (try clear hd); (try clear ih); (try clear hn); (try clear hhub); (try clear hhub2); (try clear hsg); (try clear hsg2); (try clear hnum); (try clear hnum2); (try clear hr); omega)
                          rw [eh] at h
                          exact rz_tail h U5 hM G5 S5
                        · exfalso; ((try clear h); (try clear hh); (try clear hd); (try clear ih); (try clear hn); (try clear hhub); (try clear hhub2); (try clear hsg); (try clear hsg2); (try clear hnum); (try clear hnum2); (try clear hr); omega)
              · exfalso; ((try clear h); (try clear hh); (try clear hd); (try clear ih); (try clear hn); (try clear hhub); (try clear hhub2); (try clear hsg); (try clear hsg2); (try clear hnum); (try clear hnum2); (try clear hr); omega)
      · exact absurd z c2
    · rcases hi with ⟨w, w23, eK, z, -⟩ | ⟨hno, -⟩
      · exact absurd z c2
      · rcases hw with ⟨ew, -⟩ | ⟨w', w23', ew, eK'⟩
        · rw [if_neg (fun z => z.2 ew), em]
          rw [g8] at hd
          exact ⟨ev, (rz_bad hd).2.1⟩
        · exact absurd eK' (hno w' w23')
theorem pz_us_ap (x : Int) (q : Int × Int) : ∀ W : List (Int × Int), pz_us x (W ++ [q]) = pz_us x W + (if q.1 = x ∨ q.2 = x then 1 else 0)
  | [] => by show (if q.1 = x ∨ q.2 = x then 1 else 0) + 0 = 0 + (if q.1 = x ∨ q.2 = x then 1 else 0); omega
  | a :: W => by
    show (if a.1 = x ∨ a.2 = x then 1 else 0) + pz_us x (W ++ [q]) = (if a.1 = x ∨ a.2 = x then 1 else 0) + pz_us x W + (if q.1 = x ∨ q.2 = x then 1 else 0)
    rw [pz_us_ap x q W]; omega
/-- the reference's wires, its ends, and that none has too many -/
def rz_W (m : dc_M) (W : List (Int × Int)) : Prop := m 120 1 = (W.length : Int) ∧ W.length ≤ 60 ∧ (∀ i : Nat, i < W.length → m 118 (60 + (i : Int)) = (W.getD i (0, 0)).1 ∧ m 119 (60 + (i : Int)) = (W.getD i (0, 0)).2) ∧ (∀ x : Int, 0 ≤ x → x < 217 → m 121 x = pz_us x W) ∧ ∀ x : Int, pz_us x W ≤ (if x < 96 ∨ 181 ≤ x then 8 else 1)
theorem rz_S_k {m : dc_M} {k : Nat} {i v : Int} {t : Int → Int} {n lim p : Int} (S : rz_S m t n lim p) (h1 : k ≠ 114) (h2 : k ≠ 115) : rz_S (dc_up m k i v) t n lim p := by
  have e : ∀ j, dc_up m k i v 114 j = m 114 j := fun j => dc_up_k (fun z => h1 z.symm)
  have e5 : ∀ j, dc_up m k i v 115 j = m 115 j := fun j => dc_up_k (fun z => h2 z.symm)
  obtain ⟨⟨B1, B2, B3, B4⟩, T, P⟩ := S
  refine ⟨⟨fun j => by unfold rz_t; rw [e5]; exact B1 j, (e 3).trans B2, (e 12).trans B3, B4⟩, ?_, P⟩
  unfold rz_T at T ⊢
  rw [e, e, e, e, e]
  exact T
theorem rz_store {m : dc_M} {a b : Int} {m1 m2 m3 : dc_M} {W : List (Int × Int)} (e1 : m1 = dc_up m 118 (dc_w (60 + m 120 1)) a) (e2 : m2 = dc_up m1 119 (dc_w (60 + m1 120 1)) b) (e3 : m3 = dc_up m2 120 1 (dc_w (m2 120 1 + 1))) (h0 : m 120 1 = (W.length : Int)) (h60 : W.length < 60) (hw : ∀ i : Nat, i < W.length → m 118 (60 + (i : Int)) = (W.getD i (0, 0)).1 ∧ m 119 (60 + (i : Int)) = (W.getD i (0, 0)).2) : m3 120 1 = ((W ++ [(a, b)]).length : Int) ∧ (∀ i : Nat, i < (W ++ [(a, b)]).length → m3 118 (60 + (i : Int)) = ((W ++ [(a, b)]).getD i (0, 0)).1 ∧ m3 119 (60 + (i : Int)) = ((W ++ [(a, b)]).getD i (0, 0)).2) := by
  have w : dc_w (60 + (W.length : Int)) = 60 + (W.length : Int) := dc_w_eq (by unfold sv_I; omega)
  rw [h0, w] at e1
  have g1 : m1 120 1 = (W.length : Int) := by rw [e1, dc_up_k (by decide), h0]
  rw [g1, w] at e2
  have g2 : m2 120 1 = (W.length : Int) := by rw [e2, dc_up_k (by decide), g1]
  rw [g2, dc_w_eq (by unfold sv_I; omega)] at e3
  refine ⟨by rw [e3, dc_up_s, List.length_append]; rfl, fun i hi => ?_⟩
  have hi : i < W.length + 1 := by rw [List.length_append] at hi; exact hi
  have f1 : m3 118 (60 + (i : Int)) = m1 118 (60 + i) := by rw [e3, dc_up_k (by decide), e2, dc_up_k (by decide)]
  have f2 : m3 119 (60 + (i : Int)) = m2 119 (60 + i) := by rw [e3, dc_up_k (by decide)]
  by_cases z : i < W.length
  · obtain ⟨y1, y2⟩ := hw i z
    rw [pz_gd_l z, f1, f2, e2, dc_up_i (by omega), e1, dc_up_i (by omega), dc_up_k (by decide)]
    exact ⟨y1, y2⟩
  · have z : i = W.length := by omega
    subst z
    rw [pz_gd_r, f1, f2, e2, dc_up_s, e1, dc_up_s]
    exact ⟨rfl, rfl⟩
set_option maxHeartbeats 4000000 in
theorem rz_read {t : Int → Int} {n : Int} : ∀ (c : Nat) (m : dc_M) (v : Int) (m' : dc_M) (W : List (Int × Int)) (p : Int) (N : Nat), LM_207 c 0 m v m' → N + W.length = 61 → rz_S m t n 700 p → rz_W m W → pz_on (pz_rd t n N W p) (fun f => v = 0 ∧ rz_E m' f) (fun W' => v = 1 ∧ rz_W m' W' ∧ m' 114 10 = m 114 10) := by
  intro c
  induction c with
  | zero => intro m v m' W p N h; exact h.elim
  | succ c ih =>
    intro m v m' W p N h hN S hW
    obtain ⟨w1, w60, ww, wU, wM⟩ := hW
    obtain ⟨N, rfl⟩ : ∃ M, N = M + 1 := ⟨N - 1, by ((try clear h); (try clear hh); (try clear hd); (try clear ih); (try clear hn); (try clear hhub); (try clear hhub2); (try clear hsg); (try clear hsg2); (try clear hnum); (try clear hnum2); (try clear hr); omega)⟩
    have T := S.2.1
    have T7 := T.1
    unfold pz_rd
    replace h := lm_207_0.mp h
    rcases h with ⟨c1, ev, em⟩ | ⟨c1, h⟩
    · have z : pz_k t n 700 p = 0 ∧ n ≤ 700 := by
        rw [c1] at T7
        split at T7
        · ((try clear h); (try clear hh); (try clear hd); (try clear ih); (try clear hn); (try clear hhub); (try clear hhub2); (try clear hsg); (try clear hsg2); (try clear hnum); (try clear hnum2); (try clear hr); omega)
        · next y => ((try clear h); (try clear hh); (try clear hd); (try clear ih); (try clear hn); (try clear hhub); (try clear hhub2); (try clear hsg); (try clear hsg2); (try clear hnum); (try clear hnum2); (try clear hr); omega)
      rw [if_pos z.1, if_pos z.2, em]
      exact ⟨ev, ⟨w1, w60, ww, wU, wM⟩, rfl⟩
    · by_cases k0 : pz_k t n 700 p = 0
      · have z : ¬ n ≤ 700 := fun y => c1 (by rw [T7, if_neg (by ((try clear h); (try clear hh); (try clear hd); (try clear ih); (try clear hn); (try clear hhub); (try clear hhub2); (try clear hsg); (try clear hsg2); (try clear hnum); (try clear hnum2); (try clear hr); omega))]; exact k0)
        rw [if_pos k0, if_neg z]
        rcases h with ⟨c2, v1, m1, hd, ev, em⟩ | ⟨c2, -⟩
        · rw [T.2.1] at hd
          rw [em, ev]
          exact ⟨(rz_bad hd).1, (rz_bad hd).2.1⟩
        · rw [T7, if_pos ⟨k0, by ((try clear h); (try clear hh); (try clear hd); (try clear ih); (try clear hn); (try clear hhub); (try clear hhub2); (try clear hsg); (try clear hsg2); (try clear hnum); (try clear hnum2); (try clear hr); omega)⟩] at c2; exfalso; ((try clear h); (try clear hh); (try clear hd); (try clear ih); (try clear hn); (try clear hhub); (try clear hhub2); (try clear hsg); (try clear hsg2); (try clear hnum); (try clear hnum2); (try clear hr); omega)
      · rw [if_neg k0]
        have k1 := rz_k T (K := 1) (by ((try clear h); (try clear hh); (try clear hd); (try clear ih); (try clear hn); (try clear hhub); (try clear hhub2); (try clear hsg); (try clear hsg2); (try clear hnum); (try clear hnum2); (try clear hr); omega))
        have bad : ∀ f, pz_hub t n 700 W (-1) p = .inl f → v = 0 → rz_E m' f → pz_on (pz_bd (pz_wire t n 700 W p) fun q => pz_rd t n N (W ++ [q.1]) q.2) (fun f => v = 0 ∧ rz_E m' f) (fun W' => v = 1 ∧ rz_W m' W' ∧ m' 114 10 = m 114 10) := by
          intro f e y1 y2
          unfold pz_wire
          rw [e]
          exact ⟨y1, y2⟩
        rcases h with ⟨c2, v1, m1, hd, ev, em⟩ | ⟨c2, v1, m1, hh, h⟩
        · rw [T.2.1] at hd
          refine bad (1, pz_pl t n 700 p) (by unfold pz_hub; rw [if_neg (fun z => c2 (k1.mpr z.1))]) (by rw [ev]; exact (rz_bad hd).1) (by rw [em]; exact (rz_bad hd).2.1)
        · have k1 := k1.mp (by ((try clear h); (try clear hh); (try clear hd); (try clear ih); (try clear hn); (try clear hhub); (try clear hhub2); (try clear hsg); (try clear hsg2); (try clear hnum); (try clear hnum2); (try clear hr); omega))
          have e13 := T.2.2.2.1 k1
          rw [e13, Int.toNat_natCast] at hh
          obtain ⟨hlt, hw⟩ := pz_wK (lim := 700) k1 S.2.2.2
          obtain ⟨F, hi⟩ := rz_ishub hh (by ((try clear h); (try clear hh); (try clear hd); (try clear ih); (try clear hn); (try clear hhub); (try clear hhub2); (try clear hsg); (try clear hsg2); (try clear hnum); (try clear hnum2); (try clear hr); omega))
          have g8 : m1 114 8 = pz_pl t n 700 p := (F.fi (by decide)).trans T.2.1
          rcases h with ⟨c3, v2, m2, hd, ev, em⟩ | ⟨c3, -, h⟩
          · rcases hi with ⟨w, w23, eK, z, -⟩ | ⟨hno, -⟩
            · exact absurd c3 z
            · rcases hw with ⟨ew, -⟩ | ⟨w', w23', ew, eK'⟩
              · rw [g8] at hd
                exact bad (1, pz_pl t n 700 p) (by unfold pz_hub; rw [if_neg (fun z => z.2 ew)]) (by rw [ev]; exact (rz_bad hd).1) (by rw [em]; exact (rz_bad hd).2.1)
              · exact absurd eK' (hno w' w23')
          · have kw : pz_k t n 700 p = 1 ∧ pz_w t n 700 p ≠ -1 := by
              rcases hi with ⟨w, w23, eK, -⟩ | ⟨-, z⟩
              · rcases hw with ⟨-, hw⟩ | ⟨w', w23', ew, eK'⟩
                · exact absurd eK (hw w w23)
                · exact ⟨k1, by ((try clear h); (try clear hh); (try clear hd); (try clear ih); (try clear hn); (try clear hhub); (try clear hhub2); (try clear hsg); (try clear hsg2); (try clear hnum); (try clear hnum2); (try clear hr); omega)⟩
              · exact absurd z c3
            have f120 : m1 120 1 = (W.length : Int) := (F 120 1 (Or.inl (by decide))).trans w1
            rw [f120] at h
            rcases h with ⟨c4, v2, m2, hhub, h⟩ | ⟨c4, v2, m2, hd, ev, em⟩
            · have h60 : W.length < 60 := by ((try clear h); (try clear hh); (try clear hd); (try clear ih); (try clear hn); (try clear hhub); (try clear hhub2); (try clear hsg); (try clear hsg2); (try clear hnum); (try clear hnum2); (try clear hr); omega)
              have S1 : rz_S m1 t n 700 p := S.go F (by decide)
              have q := rz_hub hhub S1 (by ((try clear h); (try clear hh); (try clear hd); (try clear ih); (try clear hn); (try clear hhub); (try clear hhub2); (try clear hsg); (try clear hsg2); (try clear hnum); (try clear hnum2); (try clear hr); omega)) (fun x a b _ => (F 121 x (Or.inl (by decide))).trans (wU x a b)) wM
              unfold pz_wire
              rw [pz_bd_bd]
              refine pz_on_bd (fun f e => ?_) (fun a e => ?_)
              · obtain ⟨q1, q2⟩ := pz_on_l q e
                rcases h with ⟨c5, ev, em⟩ | ⟨c5, -⟩
                · rw [em]; exact ⟨ev, q2⟩
                · exfalso; ((try clear h); (try clear hh); (try clear hd); (try clear ih); (try clear hn); (try clear hhub); (try clear hhub2); (try clear hsg); (try clear hsg2); (try clear hnum); (try clear hnum2); (try clear hr); omega)
              · obtain ⟨q1, q2, q3, q4, mz, Fz, Sz, ez⟩ := pz_on_r q e
                rcases h with ⟨c5, -⟩ | ⟨c5, v3, m3, hsg, h⟩
                · exfalso; ((try clear h); (try clear hh); (try clear hd); (try clear ih); (try clear hn); (try clear hhub); (try clear hhub2); (try clear hsg); (try clear hsg2); (try clear hnum); (try clear hnum2); (try clear hr); omega)
                · have S2 : rz_S m2 t n 700 a.2 := by rw [ez]; exact rz_S_k Sz (by decide) (by decide)
                  have r := rz_sgn hsg S2
                  rw [pz_bd_bd]
                  refine pz_on_bd (fun f e => ?_) (fun p1 e => ?_)
                  · obtain ⟨r1, r2⟩ := pz_on_l r e
                    rcases h with ⟨c6, -⟩ | ⟨c6, ev, em⟩
                    · exact absurd r1 c6
                    · rw [em]; exact ⟨ev, r2⟩
                  · obtain ⟨r1, r2, S3⟩ := pz_on_r r e
                    rcases h with ⟨c6, v4, m4, hhub2, h⟩ | ⟨c6, -⟩
                    · rw [q1] at hhub2
                      have u3 : ∀ x, m3 121 x = if x = a.1 then pz_us a.1 W + 1 else m 121 x := fun x => by
                        rw [r2 121 x (Or.inl (by decide)), ez]
                        split
                        · next z => rw [z, dc_up_s]
                        · next z => rw [dc_up_i z, Fz 121 x (Or.inl (by decide)), F 121 x (Or.inl (by decide))]
                      have s := rz_hub hhub2 S3 (by ((try clear h); (try clear hh); (try clear hd); (try clear ih); (try clear hn); (try clear hhub); (try clear hhub2); (try clear hsg); (try clear hsg2); (try clear hnum); (try clear hnum2); (try clear hr); omega)) (fun x y1 y2 y3 => by rw [u3 x, if_neg y3]; exact wU x y1 y2) wM
                      rw [pz_bd_bd]
                      refine pz_on_bd (fun f e => ?_) (fun b e => ?_)
                      · obtain ⟨s1, s2⟩ := pz_on_l s e
                        rcases h with ⟨c7, ev, em⟩ | ⟨c7, -⟩
                        · rw [em]; exact ⟨ev, s2⟩
                        · exfalso; ((try clear h); (try clear hh); (try clear hd); (try clear ih); (try clear hn); (try clear hhub); (try clear hhub2); (try clear hsg); (try clear hsg2); (try clear hnum); (try clear hnum2); (try clear hr); omega)
                      · obtain ⟨s1, s2, s3, s4, my, Fy, Sy, ey⟩ := pz_on_r s e
                        rcases h with ⟨c7, -⟩ | ⟨c7, v5, m5, hsg2, h⟩
                        · exfalso; ((try clear h); (try clear hh); (try clear hd); (try clear ih); (try clear hn); (try clear hhub); (try clear hhub2); (try clear hsg); (try clear hsg2); (try clear hnum); (try clear hnum2); (try clear hr); omega)
                        · have S4 : rz_S m4 t n 700 b.2 := by rw [ey]; exact rz_S_k Sy (by decide) (by decide)
                          have u := rz_sgn hsg2 S4
                          rw [pz_bd_bd]
                          refine pz_on_bd (fun f e => ?_) (fun p2 e => ?_)
                          · obtain ⟨u1, u2⟩ := pz_on_l u e
                            rcases h with ⟨c8, -⟩ | ⟨c8, ev, em⟩
                            · exact absurd u1 c8
                            · rw [em]; exact ⟨ev, u2⟩
                          · obtain ⟨u1, u2, S5⟩ := pz_on_r u e
                            rcases h with ⟨c8, -, -, m6, e6, -, -, m7, e7, -, -, m8, e8, h⟩ | ⟨c8, -⟩
                            · have keep : ∀ k i, k ≠ 114 → k ≠ 121 → m5 k i = m k i := fun k i h1 h2 => by
                                rw [u2 k i (Or.inl h1), ey, dc_up_k h2, Fy k i (Or.inl h1), r2 k i (Or.inl h1), ez, dc_up_k h2, Fz k i (Or.inl h1), F k i (Or.inl h1)]
                              have k10 : m5 114 10 = m 114 10 := by
                                rw [u2.fi (by decide), ey, dc_up_k (by decide), Fy.fi (by decide), r2.fi (by decide), ez, dc_up_k (by decide), Fz.fi (by decide), F.fi (by decide)]
                              rw [q1] at e6
                              rw [s1] at e7
                              obtain ⟨o1, o2⟩ := rz_store (W := W) e6 e7 e8 ((keep 120 1 (by decide) (by decide)).trans w1) h60 (fun i hi => by
                                rw [keep 118 _ (by decide) (by decide), keep 119 _ (by decide) (by decide)]; exact ww i hi)
                              have e121 : ∀ x, m8 121 x = m5 121 x := fun x => by rw [e8, dc_up_k (by decide), e7, dc_up_k (by decide), e6, dc_up_k (by decide)]
                              have S8 : rz_S m8 t n 700 p2 := by
                                rw [e8]; refine rz_S_k ?_ (by decide) (by decide)
                                rw [e7]; refine rz_S_k ?_ (by decide) (by decide)
                                rw [e6]; exact rz_S_k S5 (by decide) (by decide)
                              have us : ∀ x, pz_us x (W ++ [(a.1, b.1)]) = pz_us x W + (if a.1 = x ∨ b.1 = x then 1 else 0) := fun x => pz_us_ap x (a.1, b.1) W
                              have hW8 : rz_W m8 (W ++ [(a.1, b.1)]) := by
                                refine ⟨o1, by rw [List.length_append]; show W.length + 1 ≤ 60; ((try clear h); (try clear hh); (try clear hd); (try clear ih); (try clear hn); (try clear hhub); (try clear hhub2); (try clear hsg); (try clear hsg2); (try clear hnum); (try clear hnum2); (try clear hr); omega), o2, fun x y1 y2 => ?_, fun x => ?_⟩
                                · rw [e121, u2 121 x (Or.inl (by decide)), ey, us]
                                  by_cases xb : x = b.1
                                  · rw [xb, dc_up_s, if_pos (Or.inr rfl)]
                                  · rw [dc_up_i xb, Fy 121 x (Or.inl (by decide)), u3 x]
                                    by_cases xa : x = a.1
                                    · rw [if_pos xa, xa, if_pos (Or.inl rfl)]
                                    · rw [if_neg xa, if_neg (by ((try clear h); (try clear hh); (try clear hd); (try clear ih); (try clear hn); (try clear hhub); (try clear hhub2); (try clear hsg); (try clear hsg2); (try clear hnum); (try clear hnum2); (try clear hr); omega)), wU x y1 y2]; ((try clear h); (try clear hh); (try clear hd); (try clear ih); (try clear hn); (try clear hhub); (try clear hhub2); (try clear hsg); (try clear hsg2); (try clear hnum); (try clear hnum2); (try clear hr); omega)
                                · rw [us]
                                  have := wM x
                                  by_cases xa : a.1 = x
                                  · rw [if_pos (Or.inl xa)]
                                    rw [xa] at q4
                                    unfold pz_full at q4
                                    ((try clear h); (try clear hh); (try clear hd); (try clear ih); (try clear hn); (try clear hhub); (try clear hhub2); (try clear hsg); (try clear hsg2); (try clear hnum); (try clear hnum2); (try clear hr); omega)
                                  · by_cases xb : b.1 = x
                                    · rw [if_pos (Or.inr xb)]
                                      rw [xb] at s4
                                      unfold pz_full at s4
                                      ((try clear h); (try clear hh); (try clear hd); (try clear ih); (try clear hn); (try clear hhub); (try clear hhub2); (try clear hsg); (try clear hsg2); (try clear hnum); (try clear hnum2); (try clear hr); omega)
                                    · rw [if_neg (by ((try clear h); (try clear hh); (try clear hd); (try clear ih); (try clear hn); (try clear hhub); (try clear hhub2); (try clear hsg); (try clear hsg2); (try clear hnum); (try clear hnum2); (try clear hr); omega))]; ((try clear h); (try clear hh); (try clear hd); (try clear ih); (try clear hn); (try clear hhub); (try clear hhub2); (try clear hsg); (try clear hsg2); (try clear hnum); (try clear hnum2); (try clear hr); omega)
                              have fin := ih m8 v m' (W ++ [(a.1, b.1)]) p2 N h (by rw [List.length_append]; show N + (W.length + 1) = 61; ((try clear h); (try clear hh); (try clear hd); (try clear ih); (try clear hn); (try clear hhub); (try clear hhub2); (try clear hsg); (try clear hsg2); (try clear hnum); (try clear hnum2); (try clear hr); omega)) S8 hW8
                              have k8 : m8 114 10 = m 114 10 := by rw [e8, dc_up_k (by decide), e7, dc_up_k (by decide), e6, dc_up_k (by decide), k10]
                              show pz_on (pz_rd t n N (W ++ [(a.1, b.1)]) p2) _ _
                              rw [k8] at fin
                              exact fin
                            · exfalso; ((try clear h); (try clear hh); (try clear hd); (try clear ih); (try clear hn); (try clear hhub); (try clear hhub2); (try clear hsg); (try clear hsg2); (try clear hnum); (try clear hnum2); (try clear hr); omega)
                    · exfalso; ((try clear h); (try clear hh); (try clear hd); (try clear ih); (try clear hn); (try clear hhub); (try clear hhub2); (try clear hsg); (try clear hsg2); (try clear hnum); (try clear hnum2); (try clear hr); omega)
            · have e60 : (60 : Int) ≤ W.length := by ((try clear h); (try clear hh); (try clear hd); (try clear ih); (try clear hn); (try clear hhub); (try clear hhub2); (try clear hsg); (try clear hsg2); (try clear hnum); (try clear hnum2); (try clear hr); omega)
              rw [g8] at hd
              exact bad (4, pz_pl t n 700 p) (by unfold pz_hub; rw [if_pos kw, if_pos ⟨rfl, e60⟩]) (by rw [ev]; exact (rz_bad hd).1) (by rw [em]; exact (rz_bad hd).2.1)
theorem rz_copy {x y : Int} : ∀ (c : Nat) (l : Int) (m : dc_M) (v : Int) (m' : dc_M), LM_208 x y c 14 l m v m' → ∀ i, m' 120 i = m 120 i := by
  intro c
  induction c with
  | zero => intro l m v m' h; exact h.elim
  | succ c ih =>
    intro l m v m' h i
    replace h := lm_208_14.mp h
    rcases h with ⟨c1, -, em⟩ | ⟨c1, -, -, m1, e1, -, -, m2, e2, h⟩
    · rw [em]
    · rw [ih _ m2 v m' h i, e2, dc_up_k (by decide), e1, dc_up_k (by decide)]
theorem rz_boardl {t : Int → Int} {n : Int} : ∀ (c : Nat) (l : Int) (m : dc_M) (v : Int) (m' : dc_M), LM_209 c 30 l m v m' → 0 ≤ l → (∀ x, 0 ≤ x → x < l → x < 217 → m 121 x = 0) → rz_B m t n 700 → m 114 4 = 0 → m 120 1 = 0 → v = pz_ans (pz_all t n) := by
  intro c
  induction c with
  | zero => intro l m v m' h; exact h.elim
  | succ c ih =>
    intro l m v m' h h0 hz B h4 h120
    replace h := lm_209_30.mp h
    rcases h with ⟨c1, v1, m1, ⟨cn, hn⟩, v2, m2, ⟨cr, hr⟩, h⟩ | ⟨c1, -, m1, e1, h⟩
    · have b := B.2.2.2
      obtain ⟨F1, T1⟩ := rz_nextl cn 0 0 m v1 m1 hn B (by ((try clear h); (try clear hh); (try clear hd); (try clear ih); (try clear hn); (try clear hhub); (try clear hhub2); (try clear hsg); (try clear hsg2); (try clear hnum); (try clear hnum2); (try clear hr); omega)) (by ((try clear h); (try clear hh); (try clear hd); (try clear ih); (try clear hn); (try clear hhub); (try clear hhub2); (try clear hsg); (try clear hsg2); (try clear hnum); (try clear hnum2); (try clear hr); omega))
      rw [h4] at T1
      have S1 : rz_S m1 t n 700 0 := ⟨B.go F1 (by decide) (by decide), T1, by ((try clear h); (try clear hh); (try clear hd); (try clear ih); (try clear hn); (try clear hhub); (try clear hhub2); (try clear hsg); (try clear hsg2); (try clear hnum); (try clear hnum2); (try clear hr); omega), by ((try clear h); (try clear hh); (try clear hd); (try clear ih); (try clear hn); (try clear hhub); (try clear hhub2); (try clear hsg); (try clear hsg2); (try clear hnum); (try clear hnum2); (try clear hr); omega)⟩
      have W1 : rz_W m1 [] := ⟨by rw [F1 120 1 (Or.inl (by decide)), h120]; rfl, by show 0 ≤ 60; ((try clear h); (try clear hh); (try clear hd); (try clear ih); (try clear hn); (try clear hhub); (try clear hhub2); (try clear hsg); (try clear hsg2); (try clear hnum); (try clear hnum2); (try clear hr); omega), fun i hi => (by cases hi), fun x y1 y2 => by rw [F1 121 x (Or.inl (by decide)), hz x y1 (by ((try clear h); (try clear hh); (try clear hd); (try clear ih); (try clear hn); (try clear hhub); (try clear hhub2); (try clear hsg); (try clear hsg2); (try clear hnum); (try clear hnum2); (try clear hr); omega)) y2]; rfl, fun x => by show (0 : Int) ≤ _; split <;> ((try clear h); (try clear hh); (try clear hd); (try clear ih); (try clear hn); (try clear hhub); (try clear hhub2); (try clear hsg); (try clear hsg2); (try clear hnum); (try clear hnum2); (try clear hr); omega)⟩
      have q := rz_read cr m1 v2 m2 [] 0 61 hr rfl S1 W1
      have fb := pz_rd_b (t := t) b.1 61 [] 0 (by ((try clear h); (try clear hh); (try clear hd); (try clear ih); (try clear hn); (try clear hhub); (try clear hhub2); (try clear hsg); (try clear hsg2); (try clear hnum); (try clear hnum2); (try clear hr); omega)) b.1
      unfold pz_all
      cases e : pz_rd t n 61 [] 0 with
      | inl f =>
        obtain ⟨q1, q2⟩ := pz_on_l q e
        have fb := pz_on_l fb e
        unfold pz_fb at fb
        rcases h with ⟨c2, -⟩ | ⟨c2, ev, em⟩
        · exact absurd q1 c2
        · rw [ev, q2.2, dc_w_eq (by unfold sv_I; ((try clear h); (try clear hh); (try clear hd); (try clear ih); (try clear hn); (try clear hhub); (try clear hhub2); (try clear hsg); (try clear hsg2); (try clear hnum); (try clear hnum2); (try clear hr); omega))]
          rfl
      | inr W =>
        obtain ⟨q1, q2, -⟩ := pz_on_r q e
        rcases h with ⟨c2, v3, m3, ⟨-, -, m4, e4, cc, hc⟩, -, ev, em⟩ | ⟨c2, -⟩
        · rw [ev, rz_copy cc _ m4 v3 m3 hc 0, e4, dc_up_s, q2.1]
          rfl
        · exfalso; ((try clear h); (try clear hh); (try clear hd); (try clear ih); (try clear hn); (try clear hhub); (try clear hhub2); (try clear hsg); (try clear hsg2); (try clear hnum); (try clear hnum2); (try clear hr); omega)
    · rw [dc_w_eq (by unfold sv_I; ((try clear h); (try clear hh); (try clear hd); (try clear ih); (try clear hn); (try clear hhub); (try clear hhub2); (try clear hsg); (try clear hsg2); (try clear hnum); (try clear hnum2); (try clear hr); omega))] at h
      refine ih (l + 1) m1 v m' h (by ((try clear h); (try clear hh); (try clear hd); (try clear ih); (try clear hn); (try clear hhub); (try clear hhub2); (try clear hsg); (try clear hsg2); (try clear hnum); (try clear hnum2); (try clear hr); omega)) (fun x y1 y2 y3 => ?_) ?_ (by rw [e1, dc_up_k (by decide)]; exact h4) (by rw [e1, dc_up_k (by decide)]; exact h120)
      · by_cases z : x = l
        · rw [e1, z, dc_up_s]
        · rw [e1, dc_up_i z]; exact hz x y1 (by ((try clear h); (try clear hh); (try clear hd); (try clear ih); (try clear hn); (try clear hhub); (try clear hhub2); (try clear hsg); (try clear hsg2); (try clear hnum); (try clear hnum2); (try clear hr); omega)) y3
      · refine ⟨fun i => by rw [← B.1 i]; unfold rz_t; rw [e1, dc_up_k (by decide)], by rw [e1, dc_up_k (by decide)]; exact B.2.1, by rw [e1, dc_up_k (by decide)]; exact B.2.2.1, B.2.2.2⟩
/-- the reference's board() -/
theorem rz_board {m : dc_M} {v : Int} {m' : dc_M} (h : D_209 m v m') (hn : 0 ≤ m 114 2 ∧ m 114 2 ≤ 740) : v = pz_ans (pz_all (rz_t m) (m 114 2)) := by
  obtain ⟨m1, e1, v2, m5, ⟨m2, e2, m3, e3, m4, e4, -, e5⟩, m6, e6, m7, e7, -, m8, e8, c, h⟩ := h
  subst e5
  have g2 : m1 114 2 = m 114 2 := by rw [e1, dc_up_i (by decide)]
  have f5 : ∀ i, m8 115 i = m 115 i := fun i => by rw [e8, dc_up_k (by decide), e7, dc_up_k (by decide), e6, dc_up_k (by decide), e4, dc_up_k (by decide), e3, dc_up_k (by decide), e2, dc_up_k (by decide), e1, dc_up_k (by decide)]
  refine rz_boardl c 0 m8 v m' h (by omega) (fun x y1 y2 => by omega) ⟨fun i => by unfold rz_t; rw [f5], ?_, ?_, hn⟩ ?_ ?_
  · rw [e8, dc_up_k (by decide), e7, dc_up_i (by decide), e6, dc_up_i (by decide), e4, dc_up_i (by decide), e3, dc_up_i (by decide), e2, dc_up_s, g2]
  · rw [e8, dc_up_k (by decide), e7, dc_up_s]
  · rw [e8, dc_up_k (by decide), e7, dc_up_i (by decide), e6, dc_up_i (by decide), e4, dc_up_s]
  · rw [e8, dc_up_s]
