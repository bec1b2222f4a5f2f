/-! CALLS OF THE LIBRARY -/
noncomputable def sx_small (l : List Nat) : Bool := List.rec (motive := fun _ => Bool) true (fun z _ ih => and (Nat.blt z 65536) ih) l
theorem sx_small_ok : ∀ {l : List Nat}, sx_small l = true → ∀ z ∈ l, z < 65536
  | [], _, z, hz => by cases hz
  | y :: l, h, z, hz => by
    have h : and (Nat.blt y 65536) (sx_small l) = true := h
    rw [Bool.and_eq_true] at h
    rcases List.mem_cons.mp hz with e | e
    · subst e; exact Nat.le_of_ble_eq_true h.1
    · exact sx_small_ok h.2 z e
noncomputable def sx_cpy (tt : List sv_T) (od : Nat → List (Nat × Nat)) (mods : List (Nat × Nat)) (S : sv_S) (K : sv_S → Bool) : Bool := match S.2.2.1 with
  | (0, _, n) :: (0, _, dp) :: vd :: (0, _, sp) :: vs :: rest => sx_ob S.1 vd fun _ td => sx_ob S.1 vs fun _ ts => (match ae_nth tt td, ae_nth tt ts with
    | some D, some T => cond (and (Nat.beq D.1 1) (and (Nat.beq T.1 1) (and (Nat.ble T.2.1 1) (and (Nat.beq D.2.1 T.2.1) (and (sv_in td 0 mods) (and (sv_nn (T.2.2.2.1 - D.2.2.2.1)) (and (sv_nn (D.2.2.2.2.1 - T.2.2.2.2.1)) (and (or (Nat.beq D.2.2.2.2.2.1 0) (Nat.beq D.2.2.2.2.2.1 T.2.2.2.2.2.1)) (and (Nat.blt D.2.2.1 2147483648) (and (Nat.blt T.2.2.1 2147483648) (and (sv_p 3 S.1 n) (and (sv_p 3 S.1 sp) (and (sv_p 3 S.1 dp) (and (sv_ma 1 n sp fun e => sx_ge S.1 (Int.ofNat T.2.2.1, []) e) (and (sv_ma 1 n dp fun e => sx_ge S.1 (Int.ofNat D.2.2.1, []) e) (Nat.ble (sx_cS rest) 8))))))))))))))))
        (K (S.1, S.2.1, rest, sv_kF [(td, 0)] S.2.2.2.1, sv_kM [(td, 0)] S.2.2.2.2.1, sv_kQ od [(td, 0)] S.2.2.2.2.2)) false
    | _, _ => false)
  | _ => false
noncomputable def sx_lst (tt : List sv_T) (od : Nat → List (Nat × Nat)) (mods : List (Nat × Nat)) (pc : Nat) (S : sv_S) (K : Nat → sv_S → Bool) : Bool := match S.2.2.1 with
  | (4, _, _) :: (0, _, i) :: v :: rest => sx_ob S.1 v fun _ t => (match ae_nth tt t with
    | some T => cond (and (Nat.beq T.1 2) (and (sx_ix S.1 i T.2.2.1) (sv_in t 0 mods))) (K (Nat.add pc 1) (S.1, S.2.1, rest, sv_kF [(t, 0)] S.2.2.2.1, sv_kM [(t, 0)] S.2.2.2.2.1, sv_kQ od [(t, 0)] S.2.2.2.2.2)) false
    | none => false)
  | _ => false
/-- the library's members that the runner does itself -/
noncomputable def sx_lib (tt : List sv_T) (od : Nat → List (Nat × Nat)) (mods : List (Nat × Nat)) (kd vir : Nat) (M : ae_M) (pc : Nat) (S : sv_S) (K : Nat → sv_S → Bool) : Bool := match kd with
  | 7 => cond (and (Nat.beq vir 0) (and (Nat.ble 1 M.2.2.2.2.2.2.2.1) (Nat.ble 60 M.2.2.2.2.2.2.2.2.1))) (sx_cpy tt od mods S (K (Nat.add pc 3))) false
  | 8 => cond (and (Nat.beq vir 0) (Nat.ble 1 M.2.2.2.2.2.2.2.1)) (match S.2.2.1 with
    | (0, _, y) :: (0, _, x) :: rest => cond (Nat.ble (Nat.add (sx_cS rest) 13) M.2.2.2.2.2.2.2.2.1) (sx_mnmx true S.1 x y fun a e => K (Nat.add pc 3) (a, S.2.1, (0, 0, e) :: rest, S.2.2.2)) false
    | _ => false) false
  | 9 => cond (and (Nat.beq vir 0) (Nat.ble 1 M.2.2.2.2.2.2.2.1)) (match S.2.2.1 with
    | (0, _, y) :: (0, _, x) :: rest => cond (Nat.ble (Nat.add (sx_cS rest) 13) M.2.2.2.2.2.2.2.2.1) (sx_mnmx false S.1 x y fun a e => K (Nat.add pc 3) (a, S.2.1, (0, 0, e) :: rest, S.2.2.2)) false
    | _ => false) false
  | 10 => cond (and (Nat.beq vir 0) (Nat.ble 1 M.2.2.2.2.2.2.2.1)) (match S.2.2.1 with
    | (0, _, x) :: rest => cond (Nat.ble (Nat.add (sx_cS rest) 13) M.2.2.2.2.2.2.2.2.1) (sx_abs S.1 x fun a e => K (Nat.add pc 3) (a, S.2.1, (0, 0, e) :: rest, S.2.2.2)) false
    | _ => false) false
  | 22 => cond (and (Nat.beq vir 1) (Nat.ble 4 M.2.2.2.2.2.2.2.1)) (match S.2.2.1 with
    | (6, t, _) :: rest => (match ae_xt t with
      | some l => cond (and (Nat.ble 259 t) (and (Nat.ble (Nat.add (sx_cS rest) 60) M.2.2.2.2.2.2.2.2.1) (Nat.ble l.length 100000))) (K (Nat.add pc 3) (S.1, S.2.1, (0, 0, Int.ofNat l.length, []) :: rest, S.2.2.2)) false
      | none => false)
    | _ => false) false
  | 23 => cond (and (Nat.beq vir 1) (Nat.ble 4 M.2.2.2.2.2.2.2.1)) (match S.2.2.1 with
    | (0, _, i) :: (6, t, _) :: rest => (match ae_xt t with
      | some l => cond (and (Nat.ble 259 t) (and (Nat.ble (Nat.add (sx_cS rest) 60) M.2.2.2.2.2.2.2.2.1) (and (sx_ix S.1 i l.length) (sx_small l)))) (sv_nw S.1 0 65535 fun a e => K (Nat.add pc 3) (a, S.2.1, (0, 0, e) :: rest, S.2.2.2)) false
      | none => false)
    | _ => false) false
  | _ => false
section
variable {ty : Nat → Option Nat} {tt : List sv_T} {op : Nat → ae_H → Nat → Nat → Int → Int → Int → Int → Prop} {od : Nat → List (Nat × Nat)} {ρ0 : Nat → Int} {n0 : Nat} {mods : List (Nat × Nat)} {h0 : ae_H} {ρ : Nat → Int} {S : sv_S} {lv : ae_L} {st : List ae_V} {h : ae_H} {K : Nat → sv_S → Bool} {G : Nat → ae_L → List ae_V → ae_H → Prop} {M : ae_M} {pc : Nat}
theorem sx_lst_ok (hty : ∀ q t, ty q = some t → q < 256) (ho : sv_opk ty op od) (hR : sv_R ty tt op ρ0 n0 mods h0 ρ S lv st h) (hs : sx_lst tt od mods pc S K = true)
    (hK : ∀ pc S ρ lv st h, K pc S = true → sv_R ty tt op ρ0 n0 mods h0 ρ S lv st h → G pc lv st h)
    (hG : ∀ pc' lv' st' h', (∀ K C, ae_step .lastore M pc 0 0 lv st h K C = K pc' 0 0 lv' st' h') → G pc' lv' st' h' → G pc lv st h) : G pc lv st h := by
  have hk := hR.2.2.2.1
  unfold sx_lst at hs
  split at hs
  · next t0 x t1 ix v rest e =>
    rw [e] at hk
    obtain ⟨cx, cs2, rfl, hx1, hk2⟩ := sv_sk1 hk
    obtain ⟨ci, cs1, rfl, hi1, hk3⟩ := sv_sk1 hk2
    obtain ⟨c, cs, rfl, hv, hr⟩ := sv_sk1 hk3
    obtain ⟨wx, rfl, ixx⟩ := sv_vk4 hx1
    obtain ⟨wi, rfl, ii⟩ := sv_vk0 hi1
    obtain ⟨s, q, hs, hlt, hq, rfl, htq⟩ := sx_ob_ok hR.1 hv hs
    split at hs
    · next T e2 =>
      rw [ae_nth_eq] at e2
      cases hc : and (Nat.beq T.1 2) (and (sx_ix S.1 ix T.2.2.1) (sv_in v.2.1 0 mods)) with
      | false => rw [hc, cond_false] at hs; cases hs
      | true =>
        rw [hc, cond_true] at hs
        rw [Bool.and_eq_true, Bool.and_eq_true] at hc
        obtain ⟨I, I1, I2, I3, I4⟩ := sx_ix_ok hR.1 ii hc.2.1
        have c0 := Nat.eq_of_beq_eq_true hc.1
        have hm := sv_in_iff.mp hc.2.2
        obtain ⟨ha, hn, hl, -, hh, ht⟩ := hR
        obtain ⟨T2, e3, hok⟩ := ht.1 q _ htq
        rw [e2] at e3
        cases e3
        unfold sv_ok at hok
        rw [c0] at hok
        obtain ⟨A, g1⟩ := hok
        obtain ⟨w1, w2, w3, w4⟩ := sv_row_ok (c := (3, T.2.2.1, .inl (ae_wr 64 A I (sv_ul (sv_ev ρ x))))) hty ht.1 htq e2 g1 (fun h' e' => by unfold sv_ok; rw [c0]; exact ⟨_, e'⟩)
        refine hG _ _ _ _ (fun K C => ?_) (hK _ _ ρ lv cs _ hs ⟨ha, hn, hl, hr, hh.fr ht.1 ho w2, w1, ht.2.tr (w2.wd (fun y hy => by cases List.mem_singleton.mp hy; exact hm))⟩)
        rw [I3]
        show ae_last (.inr (.inl (sv_ul (sv_ev ρ x))) :: .inl (.inl I) :: .inr (.inr (some q)) :: cs) h (fun st h => K (Nat.add pc 1) 0 0 lv st h) = _
        unfold ae_last; dsimp only
        rw [g1]
        show cond (and (Nat.beq 3 3) (ae_in (.inl I) T.2.2.1)) (ae_f (ae_wr 64 A I (sv_ul (sv_ev ρ x))) fun B => K (Nat.add pc 1) 0 0 lv cs (ae_hs h q (.inl (3, T.2.2.1, .inl B)))) none = _
        rw [sv_in_i I2 I4, show Nat.beq 3 3 = true from rfl, Bool.and_self, cond_true, ae_f_eq]
    · cases hs
  · cases hs
theorem sx_cpy_ok {k : sv_S → Bool} (hty : ∀ q t, ty q = some t → q < 256) (ho : sv_opk ty op od) (hR : sv_R ty tt op ρ0 n0 mods h0 ρ S lv st h) (hs : sx_cpy tt od mods S k = true) : ∃ S2 st2 h2, k S2 = true ∧ sv_R ty tt op ρ0 n0 mods h0 ρ S2 lv st2 h2 ∧ ae_catS st2 ≤ 8 ∧ ∀ (K : List ae_V → ae_H → Option ae_R), ae_cpy st h K = K st2 h2 := by
  have hk := hR.2.2.2.1
  unfold sx_cpy at hs
  split at hs
  · next t0 n t1 dp vd t2 sp vs rest e =>
    rw [e] at hk
    obtain ⟨c1, cs1, rfl, v1, hk⟩ := sv_sk1 hk
    obtain ⟨c2, cs2, rfl, v2, hk⟩ := sv_sk1 hk
    obtain ⟨c3, cs3, rfl, v3, hk⟩ := sv_sk1 hk
    obtain ⟨c4, cs4, rfl, v4, hk⟩ := sv_sk1 hk
    obtain ⟨c5, cs, rfl, v5, hr⟩ := sv_sk1 hk
    obtain ⟨wn, rfl, i_n⟩ := sv_vk0 v1
    obtain ⟨wd, rfl, i_d⟩ := sv_vk0 v2
    obtain ⟨ws, rfl, i_s⟩ := sv_vk0 v4
    obtain ⟨sd, qd, hs, -, -, rfl, td⟩ := sx_ob_ok hR.1 v3 hs
    obtain ⟨ss, qs, hs, -, -, rfl, ts⟩ := sx_ob_ok hR.1 v5 hs
    split at hs
    · next D T eD eT =>
      rw [ae_nth_eq] at eD eT
      generalize hB : (and (Nat.beq D.1 1) (and (Nat.beq T.1 1) (and (Nat.ble T.2.1 1) (and (Nat.beq D.2.1 T.2.1) (and (sv_in vd.2.1 0 mods) (and (sv_nn (T.2.2.2.1 - D.2.2.2.1)) (and (sv_nn (D.2.2.2.2.1 - T.2.2.2.2.1)) (and (or (Nat.beq D.2.2.2.2.2.1 0) (Nat.beq D.2.2.2.2.2.1 T.2.2.2.2.2.1)) (and (Nat.blt D.2.2.1 2147483648) (and (Nat.blt T.2.2.1 2147483648) (and (sv_p 3 S.1 n) (and (sv_p 3 S.1 sp) (and (sv_p 3 S.1 dp) (and (sv_ma 1 n sp fun e => sx_ge S.1 (Int.ofNat T.2.2.1, []) e) (and (sv_ma 1 n dp fun e => sx_ge S.1 (Int.ofNat D.2.2.1, []) e) (Nat.ble (sx_cS rest) 8)))))))))))))))) = B at hs
      cases B with
      | false => rw [cond_false] at hs; cases hs
      | true =>
        rw [cond_true] at hs
        simp only [Bool.and_eq_true, sv_ma_f] at hB
        obtain ⟨b1, b2, b3, b4, b5, b6, b7, b8, b9, b10, b11, b12, b13, b14, b15, b16⟩ := hB
        have b1 := Nat.eq_of_beq_eq_true b1
        have b2 := Nat.eq_of_beq_eq_true b2
        have b4 := Nat.eq_of_beq_eq_true b4
        have b5 := sv_in_iff.mp b5
        have b6 := sv_nn_iff.mp b6
        have b7 := sv_nn_iff.mp b7
        have b9' : D.2.2.1 < 2147483648 := Nat.le_of_ble_eq_true b9
        have b10' : T.2.2.1 < 2147483648 := Nat.le_of_ble_eq_true b10
        have p1 := sv_p_ok hR.1 b11
        have p2 := sv_p_ok hR.1 b12
        have p3 := sv_p_ok hR.1 b13
        have p4 := sx_ge_ok hR.1 b14
        have p5 := sx_ge_ok hR.1 b15
        rw [sv_mf_ev, sv_ev0] at p4 p5
        have p4 : 1 * sv_ev ρ n + sv_ev ρ sp ≤ (T.2.2.1 : Int) := p4
        have p5 : 1 * sv_ev ρ n + sv_ev ρ dp ≤ (D.2.2.1 : Int) := p5
        have un := (sv_upos i_n p1).1
        have ud := (sv_upos i_d p3).1
        have us := (sv_upos i_s p2).1
        obtain ⟨ha, hn, hl, -, hh, ht⟩ := hR
        obtain ⟨A, gA, rA⟩ := sv_hk_a ht.1 ts eT b2
        obtain ⟨B, gB, rB⟩ := sv_hk_a ht.1 td eD b1
        generalize sv_u (sv_ev ρ n) = N at *
        generalize sv_u (sv_ev ρ dp) = DP at *
        generalize sv_u (sv_ev ρ sp) = SP at *
        have hcell : ∀ h', ae_hg h' qd = some (.inl (D.2.1, D.2.2.1, .inl (ae_blit A SP B DP N))) → sv_ok ty h' qd D := fun h' e' => by
          unfold sv_ok; rw [b1]
          refine ⟨_, e', fun j hj => ?_⟩
          rw [sv_rd_blit]
          split
          · next hin =>
            obtain ⟨r1, r2, r3⟩ := rA (SP + (j - DP)) (by omega)
            refine ⟨by omega, by omega, ?_⟩
            rw [Bool.or_eq_true] at b8
            rcases b8 with z | z
            · exact Or.inl (Nat.eq_of_beq_eq_true z)
            · rw [Nat.eq_of_beq_eq_true z]; exact r3
          · exact rB j hj
        obtain ⟨w1, w2, w3, w4⟩ := sv_row_ok hty ht.1 td eD gB hcell
        refine ⟨_, cs, _, hs, ⟨ha, hn, hl, hr, hh.fr ht.1 ho w2, w1, ht.2.tr (w2.wd (fun y hy => by cases List.mem_singleton.mp hy; exact b5))⟩, by rw [sx_cS_ok hr]; exact Nat.le_of_ble_eq_true b16, fun K => ?_⟩
        unfold ae_cpy; dsimp only
        rw [gA, gB]
        show cond (and (Nat.ble T.2.1 1) (and (Nat.beq D.2.1 T.2.1) (and (Nat.ble (SP + N) T.2.2.1) (and (Nat.ble (DP + N) D.2.2.1) (and (Nat.blt T.2.2.1 2147483648) (Nat.blt D.2.2.1 2147483648)))))) (ae_f (ae_blit A SP B DP N) fun B2 => K cs (ae_hs h qd (.inl (D.2.1, D.2.2.1, .inl B2)))) none = _
        rw [b3, b4, Nat.beq_refl, Nat.ble_eq_true_of_le (by omega : SP + N ≤ T.2.2.1), Nat.ble_eq_true_of_le (by omega : DP + N ≤ D.2.2.1), b9, b10, Bool.and_self, Bool.and_self, Bool.and_self, Bool.and_self, Bool.and_self, cond_true, ae_f_eq]
    · cases hs
  · cases hs
end
