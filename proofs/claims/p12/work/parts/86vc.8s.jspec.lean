/-! THE JOB'S TEXT: what it says -/
/-- a word's letters, the last first -/
def pj_nm (t : Int → Int) (pl : Int) : Nat → List Int
  | 0 => []
  | s + 1 => t (pl + (s : Nat)) :: pj_nm t pl s
theorem pj_nm_len {t : Int → Int} {pl : Int} : ∀ s : Nat, (pj_nm t pl s).length = s
  | 0 => rfl
  | s + 1 => congrArg Nat.succ (pj_nm_len s)
theorem pj_nm_ext {t u : Int → Int} {pl ql : Int} : ∀ s : Nat, pj_nm t pl s = pj_nm u ql s ↔ ∀ i : Nat, i < s → t (pl + (i : Nat)) = u (ql + (i : Nat))
  | 0 => ⟨fun _ i hi => absurd hi (by omega), fun _ => rfl⟩
  | s + 1 => by
    show (t (pl + (s : Nat)) :: pj_nm t pl s = u (ql + (s : Nat)) :: pj_nm u ql s) ↔ _
    rw [List.cons.injEq, pj_nm_ext s]
    constructor
    · intro ⟨a, b⟩ i hi
      by_cases e : i = s
      · rw [e]; exact a
      · exact b i (by omega)
    · intro h
      exact ⟨h s (by omega), fun i hi => h i (by omega)⟩
/-- letters -/
def pj_al (l : List Int) : Prop := ∀ c ∈ l, 97 ≤ c ∧ c ≤ 122
theorem pj_al_h {c : Int} {l : List Int} (h : pj_al (c :: l)) : 97 ≤ c ∧ c ≤ 122 := h c (List.mem_cons.mpr (Or.inl rfl))
theorem pj_al_t {c : Int} {l : List Int} (h : pj_al (c :: l)) : pj_al l := fun d hd => h d (List.mem_cons.mpr (Or.inr hd))
theorem pj_nm_al {t : Int → Int} {pl : Int} : ∀ s : Nat, (∀ i : Nat, i < s → 97 ≤ t (pl + (i : Nat)) ∧ t (pl + (i : Nat)) ≤ 122) → pj_al (pj_nm t pl s)
  | 0, _ => fun c hc => by cases hc
  | s + 1, h => fun c hc => by
    rcases List.mem_cons.mp hc with e | hc
    · rw [e]; exact h s (by omega)
    · exact pj_nm_al s (fun i hi => h i (by omega)) c hc
/-- a word as the class counts it, as the reference packs it -/
def pj_cv : List Int → Int
  | [] => 0
  | c :: l => pj_cv l * 32 + (c - 96)
def pj_pk : List Int → Int
  | [] => 0
  | c :: l => pj_pk l * 256 + c
theorem pj_cv_0 : ∀ {l : List Int}, pj_al l → 0 ≤ pj_cv l
  | [], _ => Int.le_refl 0
  | c :: l, h => by
    have h1 := pj_al_h h
    have h0 := pj_cv_0 (pj_al_t h)
    show 0 ≤ pj_cv l * 32 + (c - 96)
    omega
theorem pj_cv_inj : ∀ {l k : List Int}, pj_al l → pj_al k → pj_cv l = pj_cv k → l = k
  | [], [], _, _, _ => rfl
  | [], c :: k, _, hk, e => by
    have h1 := pj_al_h hk
    have h0 := pj_cv_0 (pj_al_t hk)
    have e : 0 = pj_cv k * 32 + (c - 96) := e
    omega
  | c :: l, [], hl, _, e => by
    have h1 := pj_al_h hl
    have h0 := pj_cv_0 (pj_al_t hl)
    have e : pj_cv l * 32 + (c - 96) = 0 := e
    omega
  | c :: l, d :: k, hl, hk, e => by
    have h1 := pj_al_h hl
    have h2 := pj_al_h hk
    have e : pj_cv l * 32 + (c - 96) = pj_cv k * 32 + (d - 96) := e
    have e1 : c = d := by omega
    have e2 : pj_cv l = pj_cv k := by omega
    rw [e1, pj_cv_inj (pj_al_t hl) (pj_al_t hk) e2]
theorem pj_pk_0 : ∀ {l : List Int}, pj_al l → 0 ≤ pj_pk l
  | [], _ => Int.le_refl 0
  | c :: l, h => by
    have h1 := pj_al_h h
    have h0 := pj_pk_0 (pj_al_t h)
    show 0 ≤ pj_pk l * 256 + c
    omega
theorem pj_pk_inj : ∀ {l k : List Int}, pj_al l → pj_al k → pj_pk l = pj_pk k → l = k
  | [], [], _, _, _ => rfl
  | [], c :: k, _, hk, e => by
    have h1 := pj_al_h hk
    have h0 := pj_pk_0 (pj_al_t hk)
    have e : 0 = pj_pk k * 256 + c := e
    omega
  | c :: l, [], hl, _, e => by
    have h1 := pj_al_h hl
    have h0 := pj_pk_0 (pj_al_t hl)
    have e : pj_pk l * 256 + c = 0 := e
    omega
  | c :: l, d :: k, hl, hk, e => by
    have h1 := pj_al_h hl
    have h2 := pj_al_h hk
    have e : pj_pk l * 256 + c = pj_pk k * 256 + d := e
    have e1 : c = d := by omega
    have e2 : pj_pk l = pj_pk k := by omega
    rw [e1, pj_pk_inj (pj_al_t hl) (pj_al_t hk) e2]
/-- fields: name, first, last; the breaks' columns; wants: field, digits, order, over -/
abbrev pj_F : Type := List (List Int × Int × Int)
abbrev pj_W : Type := List (Int × Int × Int × Int)
abbrev pj_J : Type := pj_F × (Int → Int) × pj_W
def pj_name (t : Int → Int) (n p : Int) : List Int := pj_nm t (pz_pl t n 300 p) (pz_nx t n 300 p - pz_pl t n 300 p).toNat
/-- the five words -/
def pj_w (s0 : Nat) : List Int := pj_nm (fun i => sv_g ((dc_xs s0).getD i.toNat 0)) 0 (dc_xs s0).length
theorem pj_w_al : ∀ s0 : Nat, s0 < 265 → 260 ≤ s0 → (dc_xs s0).length ≤ 5 ∧ pj_al (pj_w s0) := by
  have key : ∀ s0 : Nat, s0 < 265 → 260 ≤ s0 → (dc_xs s0).length ≤ 5 ∧ (pj_w s0).all (fun c => decide (97 ≤ c ∧ c ≤ 122)) = true := by decide +kernel
  exact fun s0 h1 h2 => ⟨(key s0 h1 h2).1, fun c hc => of_decide_eq_true (List.all_eq_true.mp (key s0 h1 h2).2 c hc)⟩
theorem pj_w_ne : pj_w 260 ≠ pj_w 261 ∧ pj_w 260 ≠ pj_w 262 ∧ pj_w 260 ≠ pj_w 263 ∧ pj_w 260 ≠ pj_w 264 ∧ pj_w 261 ≠ pj_w 262 ∧ pj_w 261 ≠ pj_w 263 ∧ pj_w 261 ≠ pj_w 264 ∧ pj_w 262 ≠ pj_w 263 ∧ pj_w 262 ≠ pj_w 264 ∧ pj_w 263 ≠ pj_w 264 := by decide +kernel
abbrev pj_is (t : Int → Int) (n p : Int) (s0 : Nat) : Prop := pz_k t n 300 p = 1 ∧ pj_name t n p = pj_w s0
abbrev pj_isn (t : Int → Int) (n p : Int) : Prop := pz_k t n 300 p = 1 ∧ ¬ pj_name t n p = pj_w 262 ∧ ¬ pj_name t n p = pj_w 260 ∧ ¬ pj_name t n p = pj_w 264 ∧ ¬ pj_name t n p = pj_w 261 ∧ ¬ pj_name t n p = pj_w 263
/-- the field of a name, or -1 -/
def pj_fo : pj_F → List Int → Int → Int
  | [], _, _ => -1
  | a :: F, w, i => if a.1 = w then i else pj_fo F w (i + 1)
theorem pj_fo_r : ∀ (F : pj_F) (w : List Int) (i : Int), 0 ≤ i → pj_fo F w i = -1 ∨ (i ≤ pj_fo F w i ∧ pj_fo F w i < i + F.length)
  | [], _, _, _ => Or.inl rfl
  | a :: F, w, i, h => by
    show (if a.1 = w then i else pj_fo F w (i + 1)) = -1 ∨ (i ≤ (if a.1 = w then i else pj_fo F w (i + 1)) ∧ (if a.1 = w then i else pj_fo F w (i + 1)) < i + ((F.length + 1 : Nat) : Int))
    split
    · exact Or.inr ⟨by omega, by omega⟩
    · rcases pj_fo_r F w (i + 1) (by omega) with h1 | h1
      · exact Or.inl h1
      · exact Or.inr ⟨by omega, by omega⟩
/-- digits and order -/
def pj_do (t : Int → Int) (n p : Int) : pz_E ((Int × Int) × Int) := pz_bd (pz_num t n 300 p 1 6) fun d => pz_bd (pz_num t n 300 d.2 1 3) fun o => .inr ((d.1, o.1), o.2)
def pj_field2 (t : Int → Int) (n : Int) (J : pj_J) (w : List Int) (p : Int) : pz_E (pj_J × Int) := pz_bd (pz_num t n 300 p 1 20) fun a => pz_bd (pz_num t n 300 a.2 a.1 (if a.1 + 5 < 20 then a.1 + 5 else 20)) fun b => .inr ((J.1 ++ [(w, a.1, b.1)], J.2), b.2)
def pj_field (t : Int → Int) (n : Int) (J : pj_J) (p : Int) : pz_E (pj_J × Int) := if (J.1.length : Int) < 6 then (if pj_isn t n (pz_nx t n 300 p) then (if pj_fo J.1 (pj_name t n (pz_nx t n 300 p)) 0 = -1 then pj_field2 t n J (pj_name t n (pz_nx t n 300 p)) (pz_nx t n 300 (pz_nx t n 300 p)) else .inl (3, pz_pl t n 300 (pz_nx t n 300 p))) else .inl (1, pz_pl t n 300 (pz_nx t n 300 p))) else .inl (4, pz_pl t n 300 p)
def pj_up (B : Int → Int) (o v : Int) : Int → Int := fun i => if i = o then v else B i
def pj_break (t : Int → Int) (n : Int) (J : pj_J) (p : Int) : pz_E (pj_J × Int) := pz_bd (pz_num t n 300 (pz_nx t n 300 p) 1 20) fun a => pz_bd (pz_num t n 300 a.2 1 3) fun o => if J.2.1 o.1 = 0 then .inr ((J.1, pj_up J.2.1 o.1 a.1, J.2.2), o.2) else .inl (3, pz_pl t n 300 a.2)
def pj_over (t : Int → Int) (n : Int) (J : pj_J) (f : Int) (q : (Int × Int) × Int) : pz_E (pj_J × Int) := if pj_is t n q.2 263 then pz_bd (pz_num t n 300 (pz_nx t n 300 q.2) 1 20) fun v => .inr ((J.1, J.2.1, J.2.2 ++ [(f, q.1.1, q.1.2, v.1)]), v.2) else .inr ((J.1, J.2.1, J.2.2 ++ [(f, q.1.1, q.1.2, 0)]), q.2)
def pj_sum (t : Int → Int) (n : Int) (J : pj_J) (p : Int) : pz_E (pj_J × Int) := if (J.2.2.length : Int) < 8 then (if pj_isn t n (pz_nx t n 300 p) then (if pj_fo J.1 (pj_name t n (pz_nx t n 300 p)) 0 = -1 then .inl (3, pz_pl t n 300 (pz_nx t n 300 p)) else pz_bd (pj_do t n (pz_nx t n 300 (pz_nx t n 300 p))) fun q => pj_over t n J (pj_fo J.1 (pj_name t n (pz_nx t n 300 p)) 0) q) else .inl (1, pz_pl t n 300 (pz_nx t n 300 p))) else .inl (4, pz_pl t n 300 p)
def pj_count (t : Int → Int) (n : Int) (J : pj_J) (p : Int) : pz_E (pj_J × Int) := if (J.2.2.length : Int) < 8 then pz_bd (pj_do t n (pz_nx t n 300 p)) (fun q => .inr ((J.1, J.2.1, J.2.2 ++ [(-1, q.1.1, q.1.2, 0)]), q.2)) else .inl (4, pz_pl t n 300 p)
/-- one line at p, up to its end -/
def pj_line (t : Int → Int) (n : Int) (J : pj_J) (p : Int) : pz_E (pj_J × Int) := if pj_is t n p 262 then pj_field t n J p else if pj_is t n p 260 then pj_break t n J p else if pj_is t n p 264 then pj_sum t n J p else if pj_is t n p 261 then pj_count t n J p else .inl (1, pz_pl t n 300 p)
def pj_rd (t : Int → Int) (n : Int) : Nat → pj_J → Int → pz_E pj_J
  | 0, _, _ => .inl (0, 0)
  | N + 1, J, p => if pz_k t n 300 p = 0 then (if n ≤ 300 then .inr J else .inl (1, pz_pl t n 300 p)) else pz_bd (pj_line t n J p) fun a => pz_bd (pz_sgn t n 300 a.2 59) fun q => pj_rd t n N a.1 q
def pj_all (t : Int → Int) (n : Int) : pz_E pj_J := pj_rd t n 301 ([], (fun _ => 0), []) 0
/-- what job() answers -/
def pj_ans (r : pz_E pj_J) : Int := match r with
  | .inl f => -1 - f.2
  | .inr J => J.2.2.length
/-- the fault told -/
def pz_flt {α : Type} (r : pz_E α) : Int := match r with
  | .inl f => f.1
  | .inr _ => 0
/-! what stands of a JOB -/
def pj_ok (J : pj_J) : Prop := J.1.length ≤ 6 ∧ (∀ a ∈ J.1, (pj_al a.1 ∧ a.1.length ≤ 5) ∧ 1 ≤ a.2.1 ∧ a.2.1 ≤ a.2.2 ∧ a.2.2 ≤ 20 ∧ a.2.2 ≤ a.2.1 + 5) ∧ (∀ o, 0 ≤ J.2.1 o ∧ J.2.1 o ≤ 20) ∧ J.2.2.length ≤ 8 ∧ ∀ w ∈ J.2.2, (w.1 = -1 ∨ (0 ≤ w.1 ∧ w.1 < J.1.length)) ∧ (1 ≤ w.2.1 ∧ w.2.1 ≤ 6) ∧ (1 ≤ w.2.2.1 ∧ w.2.2.1 ≤ 3) ∧ (0 ≤ w.2.2.2 ∧ w.2.2.2 ≤ 20)
theorem pj_ok_0 : pj_ok ([], (fun _ => 0), []) := ⟨by decide, fun a h => (by cases h), fun _ => ⟨Int.le_refl 0, (by decide : (0 : Int) ≤ 20)⟩, by decide, fun a h => (by cases h)⟩
theorem pz_nx_s {t : Int → Int} {n lim p : Int} (h : pz_k t n lim p ≠ 0) (hp : p ≤ n) : p < pz_nx t n lim p ∧ p < lim := by
  have sk := pz_sk_r (t := t) hp
  unfold pz_k at h
  unfold pz_nx
  split at h
  · exact absurd rfl h
  · next c =>
    rw [if_neg c]
    have e1 := pz_en_r (a := 97) (b := 122) (t := t) (p := pz_sk t n p + 1) (n := n) (by omega)
    have e2 := pz_en_r (a := 48) (b := 57) (t := t) (p := pz_sk t n p + 1) (n := n) (by omega)
    split
    · next d => rw [pz_en_y (by omega) d]; omega
    · split
      · next d => rw [pz_en_y (by omega) d]; omega
      · omega
theorem pz_num_s {t : Int → Int} {n lim p a b : Int} {q : Int × Int} (e : pz_num t n lim p a b = .inr q) : pz_k t n lim p = 2 ∧ (a ≤ q.1 ∧ q.1 ≤ b) ∧ q.2 = pz_nx t n lim p := by
  unfold pz_num at e
  split at e
  · next c =>
    split at e
    · next d => cases e; exact ⟨c, d, rfl⟩
    · cases e
  · cases e
theorem pz_sgn_s {t : Int → Int} {n lim p c q : Int} (e : pz_sgn t n lim p c = .inr q) : pz_k t n lim p = 3 ∧ q = pz_nx t n lim p := by
  unfold pz_sgn at e
  split at e
  · next d => cases e; exact ⟨d.1, rfl⟩
  · cases e
theorem pz_num_c {t : Int → Int} {n lim p a b : Int} {q : Int × Int} (h0 : 0 ≤ p) (h1 : p ≤ n) (e : pz_num t n lim p a b = .inr q) : (a ≤ q.1 ∧ q.1 ≤ b) ∧ p < q.2 ∧ q.2 ≤ n := by
  obtain ⟨y1, y2, y3⟩ := pz_num_s e
  have r := pz_nx_r (t := t) (lim := lim) h1
  have s := pz_nx_s (t := t) (lim := lim) (show pz_k t n lim p ≠ 0 by omega) h1
  exact ⟨y2, by omega, by omega⟩
theorem pj_do_b {t : Int → Int} {n p : Int} (h0 : 0 ≤ p) (h1 : p ≤ n) : pz_on (pj_do t n p) (pz_fb n) (fun q => (1 ≤ q.1.1 ∧ q.1.1 ≤ 6) ∧ (1 ≤ q.1.2 ∧ q.1.2 ≤ 3) ∧ p < q.2 ∧ q.2 ≤ n) := by
  refine pz_on_bd (fun f e => pz_on_l (pz_num_b h0 h1 (by decide)) e) (fun d e => ?_)
  obtain ⟨a1, a2, a3⟩ := pz_num_c h0 h1 e
  refine pz_on_bd (fun f e => pz_on_l (pz_num_b (by omega) a3 (by decide)) e) (fun o e => ?_)
  obtain ⟨b1, b2, b3⟩ := pz_num_c (by omega) a3 e
  exact ⟨a1, b1, by show p < o.2; omega, b3⟩
theorem pj_name_ok {t : Int → Int} {n p : Int} (h : pz_k t n 300 p = 1) (hp : p ≤ n) : pj_al (pj_name t n p) ∧ (pj_name t n p).length ≤ 5 := by
  obtain ⟨k1, k2, k3, k4, k5⟩ := pz_k1 h hp
  unfold pj_name
  refine ⟨pj_nm_al _ (fun i hi => ?_), by rw [pj_nm_len]; omega⟩
  have hi2 : pz_pl t n 300 p + (i : Nat) < pz_nx t n 300 p := by omega
  rw [k4] at hi2
  exact pz_en_in (n := n) (n - pz_sk t n p).toNat (pz_sk t n p) _ (by omega) hi2
theorem pj_mem_app {α : Type} {P : α → Prop} {l : List α} {a : α} (h : ∀ x ∈ l, P x) (ha : P a) : ∀ x ∈ l ++ [a], P x := fun x hx => by
  rcases List.mem_append.mp hx with z | z
  · exact h x z
  · rw [List.mem_singleton.mp z]; exact ha
theorem pj_line_b {t : Int → Int} {n p : Int} {J : pj_J} (h0 : 0 ≤ p) (h1 : p ≤ n) (ok : pj_ok J) : pz_on (pj_line t n J p) (pz_fb n) (fun a => pj_ok a.1 ∧ p ≤ a.2 ∧ a.2 ≤ n) := by
  obtain ⟨o1, o2, o3, o4, o5⟩ := ok
  have pl := pz_pl_r (t := t) h0 h1 (lim := 300) (by decide)
  have nx := pz_nx_r (t := t) (lim := 300) h1
  have n0 : 0 ≤ pz_nx t n 300 p := by omega
  have pl1 := pz_pl_r (t := t) n0 nx.2 (lim := 300) (by decide)
  have nx1 := pz_nx_r (t := t) (lim := 300) nx.2
  have n1 : 0 ≤ pz_nx t n 300 (pz_nx t n 300 p) := by omega
  have fo := pj_fo_r J.1 (pj_name t n (pz_nx t n 300 p)) 0 (by decide)
  have wadd : ∀ (f d o v : Int), (J.2.2.length : Int) < 8 → (f = -1 ∨ (0 ≤ f ∧ f < J.1.length)) → (1 ≤ d ∧ d ≤ 6) → (1 ≤ o ∧ o ≤ 3) → (0 ≤ v ∧ v ≤ 20) → pj_ok (J.1, J.2.1, J.2.2 ++ [(f, d, o, v)]) := fun f d o v h8 q1 q2 q3 q4 => ⟨o1, o2, o3, by show (J.2.2 ++ [(f, d, o, v)]).length ≤ 8; rw [List.length_append]; show J.2.2.length + 1 ≤ 8; omega, pj_mem_app o5 ⟨q1, q2, q3, q4⟩⟩
  unfold pj_line
  split
  · unfold pj_field
    split
    · next c6 =>
      split
      · next cn =>
        split
        · unfold pj_field2
          refine pz_on_bd (fun f e => pz_on_l (pz_num_b n1 nx1.2 (by decide)) e) (fun a e => ?_)
          obtain ⟨a1, a2, a3⟩ := pz_num_c n1 nx1.2 e
          refine pz_on_bd (fun f e => pz_on_l (pz_num_b (by omega) a3 (by decide)) e) (fun b e => ?_)
          obtain ⟨b1, b2, b3⟩ := pz_num_c (by omega) a3 e
          have hb : b.1 ≤ a.1 + 5 ∧ b.1 ≤ 20 := by
            have := b1.2
            split at this <;> omega
          refine ⟨⟨by show (J.1 ++ [(pj_name t n (pz_nx t n 300 p), a.1, b.1)]).length ≤ 6; rw [List.length_append]; show J.1.length + 1 ≤ 6; omega, pj_mem_app o2 ⟨pj_name_ok cn.1 nx.2, a1.1, b1.1, hb.2, hb.1⟩, o3, o4, fun w hw => ?_⟩, by show p ≤ b.2; omega, b3⟩
          obtain ⟨w1, w2⟩ := o5 w hw
          refine ⟨?_, w2⟩
          show w.1 = -1 ∨ (0 ≤ w.1 ∧ w.1 < ((J.1 ++ [(pj_name t n (pz_nx t n 300 p), a.1, b.1)]).length : Int))
          rw [List.length_append]
          show w.1 = -1 ∨ (0 ≤ w.1 ∧ w.1 < ((J.1.length + 1 : Nat) : Int))
          omega
        · exact pl1
      · exact pl1
    · exact pl
  · split
    · unfold pj_break
      refine pz_on_bd (fun f e => pz_on_l (pz_num_b n0 nx.2 (by decide)) e) (fun a e => ?_)
      obtain ⟨a1, a2, a3⟩ := pz_num_c n0 nx.2 e
      refine pz_on_bd (fun f e => pz_on_l (pz_num_b (by omega) a3 (by decide)) e) (fun o e => ?_)
      obtain ⟨b1, b2, b3⟩ := pz_num_c (by omega) a3 e
      split
      · refine ⟨⟨o1, o2, fun i => ?_, o4, o5⟩, by show p ≤ o.2; omega, b3⟩
        show 0 ≤ (if i = o.1 then a.1 else J.2.1 i) ∧ (if i = o.1 then a.1 else J.2.1 i) ≤ 20
        have := o3 i
        split <;> omega
      · exact pz_pl_r (by omega) a3 (by decide)
    · split
      · unfold pj_sum
        split
        · next c8 =>
          split
          · next cn =>
            split
            · exact pl1
            · next cf =>
              refine pz_on_bd (fun f e => pz_on_l (pj_do_b n1 nx1.2) e) (fun q e => ?_)
              obtain ⟨d1, d2, d3, d4⟩ := pz_on_r (pj_do_b n1 nx1.2) e
              unfold pj_over
              split
              · next ci =>
                have nxq := pz_nx_r (t := t) (lim := 300) d4
                refine pz_on_bd (fun f e => pz_on_l (pz_num_b (by omega) nxq.2 (by decide)) e) (fun v e => ?_)
                obtain ⟨b1, b2, b3⟩ := pz_num_c (by omega) nxq.2 e
                exact ⟨wadd _ _ _ _ c8 (by omega) d1 d2 (by omega), by show p ≤ v.2; omega, b3⟩
              · exact ⟨wadd _ _ _ _ c8 (by omega) d1 d2 (by omega), by show p ≤ q.2; omega, d4⟩
          · exact pl1
        · exact pl
      · split
        · unfold pj_count
          split
          · next c8 =>
            refine pz_on_bd (fun f e => pz_on_l (pj_do_b n0 nx.2) e) (fun q e => ?_)
            obtain ⟨d1, d2, d3, d4⟩ := pz_on_r (pj_do_b n0 nx.2) e
            exact ⟨wadd _ _ _ _ c8 (Or.inl rfl) d1 d2 (by omega), by show p ≤ q.2; omega, d4⟩
          · exact pl
        · exact pl
theorem pj_rd_b {t : Int → Int} {n : Int} (hn : 0 ≤ n) : ∀ (N : Nat) (J : pj_J) (p : Int), pj_ok J → 0 ≤ p → p ≤ n → pz_on (pj_rd t n N J p) (pz_fb n) (fun K => pj_ok K)
  | 0, J, p, _, h0, h1 => ⟨Int.le_refl 0, hn⟩
  | N + 1, J, p, ok, h0, h1 => by
    unfold pj_rd
    split
    · split
      · exact ok
      · exact pz_pl_r h0 h1 (by decide)
    · refine pz_on_bd (fun f e => pz_on_l (pj_line_b h0 h1 ok) e) (fun a e => ?_)
      obtain ⟨a0, a1, a2⟩ := pz_on_r (pj_line_b h0 h1 ok) e
      refine pz_on_bd (fun f e => pz_on_l (pz_sgn_b (by omega) a2 (by decide)) e) (fun q e => ?_)
      obtain ⟨b1, b2⟩ := pz_on_r (pz_sgn_b (by omega) a2 (by decide)) e
      exact pj_rd_b hn N _ _ a0 b1 b2
theorem pj_drop {α : Type} (d : α) {W : List α} {i : Nat} (hi : i < W.length) : W.drop i = W.getD i d :: W.drop (i + 1) := by
  rw [List.drop_eq_getElem_cons hi, List.getD_eq_getElem?_getD, List.getElem?_eq_getElem hi]; rfl
theorem pj_gl {α : Type} {d : α} {W V : List α} {i : Nat} (h : i < W.length) : (W ++ V).getD i d = W.getD i d := by
  rw [List.getD_eq_getElem?_getD, List.getD_eq_getElem?_getD, List.getElem?_append_left h]
theorem pj_gr {α : Type} {d a : α} {W : List α} : (W ++ [a]).getD W.length d = a := by
  rw [List.getD_eq_getElem?_getD, List.getElem?_append_right (Nat.le_refl _), Nat.sub_self]; rfl
theorem pj_gm {α : Type} {d : α} {W : List α} {i : Nat} (h : i < W.length) : W.getD i d ∈ W := by
  rw [List.getD_eq_getElem?_getD, List.getElem?_eq_getElem h]; exact List.getElem_mem h
