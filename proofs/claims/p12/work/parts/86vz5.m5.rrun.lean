/-! THE REFERENCE'S RUN -/
/-- the NETS with no relay picked stand in row 125 -/
def r5_P (W : List (Int × Int)) (w : Int) (m : dc_M) : Prop := (∀ a, 0 ≤ a → a < 217 → 0 ≤ m 125 a ∧ m 125 a < 217) ∧ ∀ a b, 0 ≤ a → a < 217 → 0 ≤ b → b < 217 → (m 125 a = m 125 b ↔ mp_q (mp_E W w (fun _ => False)) a b)
/-- the NETS of the relays picked stand in row 126 -/
def r5_L (E : Int → Int → Prop) (m : dc_M) : Prop := (∀ a, 0 ≤ a → a < 217 → 0 ≤ m 126 a ∧ m 126 a < 217) ∧ ∀ a b, 0 ≤ a → a < 217 → 0 ≤ b → b < 217 → (m 126 a = m 126 b ↔ mp_q E a b)
theorem r5_L.cg {E : Int → Int → Prop} {m m2 : dc_M} (h : r5_L E m) (e : m2 126 = m 126) : r5_L E m2 := by
  unfold r5_L
  rw [e]
  exact h
theorem mp_q.pk {W : List (Int × Int)} {w : Int} {pk pl : Int → Prop} (h : ∀ r : Int, 0 ≤ r → r < 4 → (pk r ↔ pl r)) {a b : Int} : mp_q (mp_E W w pk) a b ↔ mp_q (mp_E W w pl) a b := ⟨fun q => q.mo (fun _ _ e => e.mo h), fun q => q.mo (fun _ _ e => e.mo (fun r r0 r1 => (h r r0 r1).symm))⟩
/-- u: what differs gives -/
theorem r5_127 {E : Int → Int → Prop} {g : Int → Int} (hu : ∀ h, 61 ≤ h → h ≤ 64 → g h = -1) {x0 l2 : Int} {Q : dc_M → Int → dc_M → Prop} (g2 : Int → Int) (hg2 : g2 = if x0 = 0 then g else mp_gu E g) {m0 : dc_M} (hQ : ∀ (c : Nat) (m : dc_M) (v : Int) (m' : dc_M), LM_219 x0 c 188 l2 0 m v m' → r3_S E g2 m → (∀ (k : Nat) (i : Int), k ≠ 124 → k ≠ 127 → k ≠ 128 → m k i = m0 k i) → Q m v m') : ∀ (c : Nat) (l : Int) (m : dc_M) (v : Int) (m' : dc_M), LM_219 x0 c 127 l2 l m v m' → 0 ≤ l → l ≤ 4 → (x0 = 0 → l = 0) → r2_S 126 E g m → r5_L E m → (∀ h, 0 ≤ h → h < 61 + l → m 124 h = g2 h) → (∀ h, 61 + l ≤ h → h < 96 → m 124 h = g h) → (∀ (k : Nat) (i : Int), k ≠ 124 → k ≠ 127 → k ≠ 128 → m k i = m0 k i) → ∃ m1, Q m1 v m' := by
  have hge : ∀ h, ¬ (61 ≤ h ∧ h ≤ 64) → g2 h = g h := fun h z => by
    rw [hg2]
    split
    · rfl
    · unfold mp_gu
      exact if_neg (by omega)
  have fin : ∀ (c : Nat) (m1 : dc_M) (v : Int) (m' : dc_M) (v2 : Int) (m2 : dc_M), D_213 126 217 1 m1 v2 m2 → LM_219 x0 c 188 l2 0 m2 v m' → r5_L E m1 → (∀ h, 0 ≤ h → h < 96 → m1 124 h = g2 h) → (∀ (k : Nat) (i : Int), k ≠ 124 → k ≠ 127 → k ≠ 128 → m1 k i = m0 k i) → ∃ m1, Q m1 v m' := by
    intro c m1 v m' v2 m2 hd h L hall fr
    obtain ⟨S, f⟩ := r2_S.mk2 (Or.inr rfl) L.1 L.2 hd (g := g2) (fun x x0 x1 => by
      unfold r2_G
      rw [hall x x0 x1]
      exact ⟨fun y => y.1, fun y => ⟨y, fun z => absurd z (by decide)⟩⟩) (fun x x0 x1 _ => hall x x0 x1)
    exact ⟨m2, hQ c m2 v m' h ⟨S, fun x x0 x1 => (f 124 x (by decide) (by decide)).trans (hall x x0 x1)⟩ (fun k i a b d => (f k i b d).trans (fr k i a b d))⟩
  intro c
  induction c with
  | zero => intro l m v m' h; exact h.elim
  | succ c ih =>
    intro l m v m' h l0 l1 hx S L h1 h2 fr
    have w1 : dc_w (l + 1) = l + 1 := dw (by omega) (by omega)
    have w2 : dc_w (148 + l) = 148 + l := dw (by omega) (by omega)
    have w3 : dc_w (152 + l) = 152 + l := dw (by omega) (by omega)
    have w4 : dc_w (61 + l) = 61 + l := dw (by omega) (by omega)
    replace h := lm_219_127.mp h
    rw [w1, w2, w3, w4] at h
    rcases h with ⟨c1, v2, m2, hd, h⟩ | ⟨c1, h⟩
    · refine fin c m v m' v2 m2 hd h L (fun x x0 x1 => ?_) fr
      by_cases z : x < 61 + l
      · exact h1 x x0 z
      · rw [h2 x (by clear h hd; omega) x1, hge x (by clear h hd; omega)]
    · rcases h with ⟨c2, v2, m2, hd, h⟩ | ⟨c2, v2, m2, hd, v3, m3, hd3, h⟩
      · have e := hx c2
        refine fin c m v m' v2 m2 hd h L (fun x x0 x1 => ?_) fr
        rw [hg2, if_pos c2]
        by_cases z : x < 61 + l
        · have q := h1 x x0 z
          rw [hg2, if_pos c2] at q
          exact q
        · exact h2 x (by clear h hd; omega) x1
      · obtain ⟨e2, q2⟩ := r2_have S hd
        clear hd
        rw [e2] at hd3
        obtain ⟨e3, q3⟩ := r2_have S hd3
        clear hd3
        rw [e3, q2, q3] at h
        have step : ∀ m5, m5 = dc_up m 124 (61 + l) (g2 (61 + l)) → LM_219 x0 c 127 l2 (l + 1) m5 v m' → ∃ m1, Q m1 v m' := by
          intro m5 e5 h
          have gm : g (61 + l) = -1 := hu _ (by clear h; omega) (by clear h; omega)
          refine ih (l + 1) m5 v m' h (by clear h; omega) (by clear h; omega) (fun z => absurd z c2) (S.cg ?_ ?_ ?_ (fun x x0 x1 gx => ?_)) (L.cg ?_) (fun x x0 x1 => ?_) (fun x x0 x1 => ?_) (fun k i a b d => ?_)
          · rw [e5]; exact funext fun i => dc_up_k (by decide)
          · rw [e5]; exact funext fun i => dc_up_k (by decide)
          · rw [e5]; exact funext fun i => dc_up_k (by decide)
          · rw [e5]
            by_cases z : x = 61 + l
            · rw [z, gm] at gx; exact absurd gx (by decide)
            · exact dc_up_i z
          · rw [e5]; exact funext fun i => dc_up_k (by decide)
          · rw [e5]
            by_cases z : x = 61 + l
            · rw [z, dc_up_s]
            · rw [dc_up_i z]; exact h1 x x0 (by clear h; omega)
          · rw [e5, dc_up_i (by clear h; omega)]; exact h2 x (by clear h; omega) x1
          · rw [e5, dc_up_k a]; exact fr k i a b d
        have eg : g2 (61 + l) = if mp_tk E g (148 + l) ≠ mp_tk E g (152 + l) then 1 else -1 := by
          rw [hg2, if_neg c2]
          unfold mp_gu
          rw [if_pos (by clear h; omega), show 61 + l + 87 = 148 + l by clear h; omega, show 61 + l + 91 = 152 + l by clear h; omega]
        rcases h with ⟨c3, -, m5, e5, h⟩ | ⟨c3, -, m5, e5, h⟩
        · exact step m5 (by rw [e5, eg, if_neg (fun z => z c3)]) h
        · exact step m5 (by rw [e5, eg, if_pos c3]) h
/-- what a CYCLE leaves -/
def r5_f (m0 m : dc_M) : Prop := ∀ (k : Nat) (i : Int), k ≠ 124 → k ≠ 126 → k ≠ 127 → k ≠ 128 → k ≠ 129 → m k i = m0 k i
theorem r5_87 {E : Int → Int → Prop} {g : Int → Int} (hu : ∀ h, 61 ≤ h → h ≤ 64 → g h = -1) {x0 l2 : Int} {Q : dc_M → Int → dc_M → Prop} {g2 : Int → Int} (hg2 : g2 = if x0 = 0 then g else mp_gu E g) {m0 : dc_M} (hQ : ∀ (c : Nat) (m : dc_M) (v : Int) (m' : dc_M), LM_219 x0 c 188 l2 0 m v m' → r3_S E g2 m → r5_f m0 m → Q m v m') (hr : l2 = 0 → ∀ a, 0 ≤ a → a < 217 → 0 ≤ m0 125 a ∧ m0 125 a < 217) (hq : l2 = 0 → ∀ a b, 0 ≤ a → a < 217 → 0 ≤ b → b < 217 → (m0 125 a = m0 125 b ↔ mp_q E a b)) : ∀ (c : Nat) (l : Int) (m : dc_M) (v : Int) (m' : dc_M), LM_219 x0 c 87 l2 l m v m' → 0 ≤ l → l ≤ 217 → (l2 ≠ 0 → r5_L E m) → (l2 = 0 → ∀ a, 0 ≤ a → a < l → m 126 a = m0 125 a) → (∀ h, 0 ≤ h → h < 96 → m 124 h = g h) → r5_f m0 m → ∃ m1, Q m1 v m' := by
  have fin : ∀ (c : Nat) (m : dc_M) (v : Int) (m' : dc_M) (v2 : Int) (m2 : dc_M), D_213 126 217 0 m v2 m2 → LM_219 x0 c 127 l2 0 m2 v m' → r5_L E m → (∀ h, 0 ≤ h → h < 96 → m 124 h = g h) → r5_f m0 m → ∃ m1, Q m1 v m' := by
    intro c m v m' v2 m2 hd h L hall fr
    obtain ⟨S, f⟩ := r2_S.mk2 (Or.inr rfl) L.1 L.2 hd (g := g) (fun x x0 x1 => by
      unfold r2_G
      rw [hall x x0 x1]
      refine ⟨fun y => y.1, fun y => ⟨y, fun _ z => ?_⟩⟩
      rw [hu x z.1 z.2] at y
      exact absurd y (by decide)) (fun x x0 x1 _ => hall x x0 x1)
    clear hd
    have all2 : ∀ x, 0 ≤ x → x < 96 → m2 124 x = g x := fun x x0 x1 => (f 124 x (by decide) (by decide)).trans (hall x x0 x1)
    have hge : ∀ x, x < 61 → g2 x = g x := fun x z => by
      rw [hg2]
      split
      · rfl
      · unfold mp_gu
        exact if_neg (by omega)
    refine r5_127 hu g2 hg2 (m0 := m2) (fun c3 m3 v3 m3' h3 S3 f3 => hQ c3 m3 v3 m3' h3 S3 (fun k i a1 a2 a3 a4 a5 => (f3 k i a1 a3 a4).trans ((f k i a3 a4).trans (fr k i a1 a2 a3 a4 a5)))) c 0 m2 v m' h (by decide) (by decide) (fun _ => rfl) S (L.cg (funext fun i => f 126 i (by decide) (by decide))) (fun x x0 x1 => ?_) (fun x x0 x1 => all2 x (by clear h; omega) x1) (fun _ _ _ _ _ => rfl)
    rw [all2 x x0 (by clear h; omega), hge x (by clear h; omega)]
  intro c
  induction c with
  | zero => intro l m v m' h; exact h.elim
  | succ c ih =>
    intro l m v m' h l0 l1 hL hi hall fr
    have w1 : dc_w (l + 1) = l + 1 := dw (by omega) (by omega)
    have e125 : m 125 = m0 125 := funext fun i => fr 125 i (by decide) (by decide) (by decide) (by decide) (by decide)
    replace h := lm_219_87.mp h
    rw [w1, e125] at h
    rcases h with ⟨c1, v2, m2, hd, h⟩ | ⟨c1, h⟩
    · refine fin c m v m' v2 m2 hd h ?_ hall fr
      by_cases z : l2 = 0
      · have ei : ∀ a, 0 ≤ a → a < 217 → m 126 a = m0 125 a := fun a a0 a1 => hi z a a0 (by clear h hd; omega)
        refine ⟨fun a a0 a1 => ?_, fun a b a0 a1 b0 b1 => ?_⟩
        · rw [ei a a0 a1]; exact hr z a a0 a1
        · rw [ei a a0 a1, ei b b0 b1]; exact hq z a b a0 a1 b0 b1
      · exact hL z
    · rcases h with ⟨c2, v2, m2, hd, h⟩ | ⟨c2, -, -, m2, e2, h⟩
      · exact fin c m v m' v2 m2 hd h (hL c2) hall fr
      · refine ih (l + 1) m2 v m' h (by clear h; omega) (by clear h; omega) (fun z => absurd z c2) (fun z a a0 a1 => ?_) (fun x x0 x1 => by rw [e2, dc_up_k (by decide)]; exact hall x x0 x1) (fun k i a1 a2 a3 a4 a5 => by rw [e2, dc_up_k a2]; exact fr k i a1 a2 a3 a4 a5)
        rw [e2]
        by_cases y : a = l
        · rw [y, dc_up_s]
        · rw [dc_up_i y]; exact hi z a a0 (by clear h; omega)
theorem dz0 : dc_z 0 = 0 := dc_z_eq (Or.inl rfl)
theorem dz1 : dc_z 1 = 1 := dc_z_eq (Or.inr rfl)
theorem r5_13 {W : List (Int × Int)} {w : Int} {g : Int → Int} (hu : ∀ h, 61 ≤ h → h ≤ 64 → g h = -1) {x0 : Int} {Q : dc_M → Int → dc_M → Prop} {g2 : Int → Int} (hg2 : g2 = if x0 = 0 then g else mp_gu (mp_E1 W w g) g) {m0 : dc_M} (hV : rz_V m0 0 W) (hw : m0 114 42 = w) (P : r5_P W w m0) (hQ : ∀ (c : Nat) (l2 : Int) (m : dc_M) (v : Int) (m' : dc_M), LM_219 x0 c 188 l2 0 m v m' → r3_S (mp_E1 W w g) g2 m → r5_f m0 m → Q m v m') : ∀ (c : Nat) (l2 l : Int) (m : dc_M) (v : Int) (m' : dc_M), LM_219 x0 c 13 l2 l m v m' → 0 ≤ l → l ≤ 4 → r2_S 125 (mp_E W w (fun _ => False)) g m → (∀ r : Int, 0 ≤ r → r < l → (m 129 r ≠ 0 ↔ mp_pk W w g r)) → (l2 ≠ 0 ↔ ∃ r, 0 ≤ r ∧ r < l ∧ mp_pk W w g r) → (∀ h, 0 ≤ h → h < 96 → m 124 h = g h) → r5_f m0 m → ∃ m1, Q m1 v m' := by
  intro c
  induction c with
  | zero => intro l2 l m v m' h; exact h.elim
  | succ c ih =>
    intro l2 l m v m' h l0 l1 S hp hs hall fr
    have w1 : dc_w (l + 1) = l + 1 := dw (by omega) (by omega)
    have w2 : dc_w (144 + l) = 144 + l := dw (by omega) (by omega)
    replace h := lm_219_13.mp h
    rw [w1, w2, dz0, dz1] at h
    rcases h with ⟨c1, h⟩ | ⟨c1, -, -, h⟩
    · have el : l = 4 := by clear h; omega
      rw [el] at hp hs
      have fr2 : ∀ {m2 : dc_M}, r5_f m m2 → r5_f m0 m2 := fun f k i a1 a2 a3 a4 a5 => (f k i a1 a2 a3 a4 a5).trans (fr k i a1 a2 a3 a4 a5)
      have e125 : m 125 = m0 125 := funext fun i => fr 125 i (by decide) (by decide) (by decide) (by decide) (by decide)
      have no : l2 = 0 → ∀ r : Int, 0 ≤ r → r < 4 → ((fun _ => False) r ↔ mp_pk W w g r) := fun z r r0 r1 => ⟨fun y => y.elim, fun y => (hs.mpr ⟨r, r0, r1, y⟩) z⟩
      have go : ∀ (m2 : dc_M), r5_f m m2 → (l2 ≠ 0 → r5_L (mp_E1 W w g) m2) → (∀ h, 0 ≤ h → h < 96 → m2 124 h = g h) → LM_219 x0 c 87 l2 0 m2 v m' → ∃ m1, Q m1 v m' := by
        intro m2 f2 hL hall2 h
        refine r5_87 hu hg2 (m0 := m0) (fun c3 m3 v3 m3' h3 S3 f3 => hQ c3 l2 m3 v3 m3' h3 S3 f3) (fun _ a a0 a1 => P.1 a a0 a1) (fun z a b a0 a1 b0 b1 => (P.2 a b a0 a1 b0 b1).trans (mp_q.pk (no z))) c 0 m2 v m' h (by decide) (by decide) hL (fun _ a a0 a1 => by exfalso; clear h; omega) hall2 (fr2 f2)
      rcases h with ⟨c2, h⟩ | ⟨c2, v2, m2, hd, h⟩
      · exact go m (fun _ _ _ _ _ _ _ => rfl) (fun z => absurd c2 z) hall h
      · have V : rz_V m 0 W := by
          obtain ⟨V1, V2, V3⟩ := hV
          refine ⟨(fr 120 0 (by decide) (by decide) (by decide) (by decide) (by decide)).trans V1, V2, fun i hi => ?_⟩
          rw [fr 118 _ (by decide) (by decide) (by decide) (by decide) (by decide), fr 119 _ (by decide) (by decide) (by decide) (by decide) (by decide)]
          exact V3 i hi
        have ew : m 114 42 = w := (fr 114 42 (by decide) (by decide) (by decide) (by decide) (by decide)).trans hw
        have q := r2_nets (k := 126) (Or.inr rfl) V ew (pk := mp_pk W w g) (fun r r0 r1 => (hp r r0 r1).symm.trans ⟨fun y => ⟨by decide, y⟩, fun y => y.2⟩) hd
        clear hd
        refine go m2 (fun k i a1 a2 a3 a4 a5 => q.1 k i a2) (fun _ => ⟨fun a a0 a1 => ⟨(q.2.1 a a0 a1).1, (q.2.1 a a0 a1).2.1⟩, fun a b a0 a1 b0 b1 => q.iff a0 a1 b0 b1⟩) (fun x x0 x1 => (q.1 124 x (by decide)).trans (hall x x0 x1)) h
    · have cc := S.c0 (t := 144 + l) (by clear h; omega) (by clear h; omega)
      have step : ∀ (b : Int) (m2 : dc_M), m2 = dc_up m 129 l b → (b ≠ 0 ↔ mp_pk W w g l) → (((l2 : Int) ≠ 0 ∧ (LM_219 x0 c 13 1 (l + 1) m2 v m')) ∨ (¬ ((l2 : Int) ≠ 0) ∧ ((0 ≤ (l : Int) ∧ (l : Int) < 4) ∧ (((((m2 129 l) : Int) = 0 ∧ (LM_219 x0 c 13 0 (l + 1) m2 v m')) ∨ (¬ (((m2 129 l) : Int) = 0) ∧ (LM_219 x0 c 13 1 (l + 1) m2 v m'))))))) → ∃ m1, Q m1 v m' := by
        intro b m2 e2 hb h
        have S2 : r2_S 125 (mp_E W w (fun _ => False)) g m2 := S.cg (by rw [e2]; exact funext fun i => dc_up_k (by decide)) (by rw [e2]; exact funext fun i => dc_up_k (by decide)) (by rw [e2]; exact funext fun i => dc_up_k (by decide)) (fun x _ _ _ => by rw [e2, dc_up_k (by decide)])
        have hp2 : ∀ r : Int, 0 ≤ r → r < l + 1 → (m2 129 r ≠ 0 ↔ mp_pk W w g r) := fun r r0 r1 => by
          rw [e2]
          by_cases z : r = l
          · rw [z, dc_up_s]; exact hb
          · rw [dc_up_i z]; exact hp r r0 (by clear h; omega)
        have hall2 : ∀ x, 0 ≤ x → x < 96 → m2 124 x = g x := fun x x0 x1 => by rw [e2, dc_up_k (by decide)]; exact hall x x0 x1
        have fr2 : r5_f m0 m2 := fun k i a1 a2 a3 a4 a5 => by rw [e2, dc_up_k a5]; exact fr k i a1 a2 a3 a4 a5
        have eb : m2 129 l = b := by rw [e2, dc_up_s]
        rw [eb] at h
        rcases h with ⟨c3, h⟩ | ⟨c3, -, h⟩
        · obtain ⟨r, r0, r1, r2⟩ := hs.mp c3
          exact ih 1 (l + 1) m2 v m' h (by clear h; omega) (by clear h; omega) S2 hp2 ⟨fun _ => ⟨r, r0, by clear h; omega, r2⟩, fun _ => by decide⟩ hall2 fr2
        · rcases h with ⟨c4, h⟩ | ⟨c4, h⟩
          · refine ih 0 (l + 1) m2 v m' h (by clear h; omega) (by clear h; omega) S2 hp2 ⟨fun y => absurd rfl y, fun ⟨r, r0, r1, r2⟩ => ?_⟩ hall2 fr2
            by_cases z : r = l
            · rw [z] at r2; exact absurd c4 (hb.mpr r2)
            · exact absurd (hs.mpr ⟨r, r0, by clear h; omega, r2⟩) c3
          · exact ih 1 (l + 1) m2 v m' h (by clear h; omega) (by clear h; omega) S2 hp2 ⟨fun _ => ⟨l, l0, by clear h; omega, hb.mp c4⟩, fun _ => by decide⟩ hall2 fr2
      rcases h with ⟨c2, -, m2, e2, h⟩ | ⟨c2, -, m2, e2, h⟩
      · exact step 0 m2 e2 ⟨fun y => absurd rfl y, fun y => absurd y (cc.mp c2)⟩ h
      · exact step 1 m2 e2 ⟨fun _ => Classical.byContradiction fun y => c2 (cc.mpr y), fun _ => by decide⟩ h
/-- cycle(isCard) -/
theorem r5_cyc {W : List (Int × Int)} {w x0 : Int} {m : dc_M} {v : Int} {m' : dc_M} (h : D_219 x0 m v m') (hV : rz_V m 0 W) (hw : m 114 42 = w) (P : r5_P W w m) {g : Int → Int} (hall : ∀ h, 0 ≤ h → h < 96 → m 124 h = g h) (hu : ∀ h, 61 ≤ h → h ≤ 64 → g h = -1) (hg : ∀ h, -1 ≤ g h ∧ g h ≤ 15) {S : dc_M} {room B : Int} (O : mr_0 m S) (hroom : m 114 43 = room) (h40 : room ≤ 40) (K : mp_K room B S) (hB : B ≤ 900000) (e0 : S 0 0 = 0) {g2 : Int → Int} (hg2 : g2 = if x0 = 0 then g else mp_gu (mp_E1 W w g) g) : v = mp_cyc (mp_E1 W w g) g2 room S 0 0 ∧ mr_0 m' (mp_cyc (mp_E1 W w g) g2 room S) ∧ r3_S (mp_E1 W w g) g2 m' ∧ ∀ (k : Nat) (i : Int), k ≠ 124 → k ≠ 126 → k ≠ 127 → k ≠ 128 → k ≠ 129 → ¬ mr_k k i → m' k i = m k i := by
  have hg2r : ∀ h, -1 ≤ g2 h ∧ g2 h ≤ 15 := fun h => by
    rw [hg2]
    split
    · exact hg h
    · exact mp_gu_r hg h
  have hT : ∀ t, -1 ≤ mp_tk (mp_E1 W w g) g2 t ∧ mp_tk (mp_E1 W w g) g2 t ≤ 15 := fun t => mp_tk_r (fun a _ _ => (hg2r a).2)
  obtain ⟨v1, m1, hd, c, h⟩ := h
  obtain ⟨S1, f1⟩ := r2_S.mk2 (Or.inl rfl) P.1 P.2 hd (g := g) (fun x x0 x1 => by
    unfold r2_G
    rw [hall x x0 x1]
    refine ⟨fun y => y.1, fun y => ⟨y, fun _ z => ?_⟩⟩
    rw [hu x z.1 z.2] at y
    exact absurd y (by decide)) (fun x x0 x1 _ => hall x x0 x1)
  clear hd
  have key : ∃ mm : dc_M, (fun (m2 : dc_M) (v : Int) (m' : dc_M) => r4_A (mp_E1 W w g) g2 m2 v m' ∧ r3_S (mp_E1 W w g) g2 m2 ∧ r5_f m m2) mm v m' := by
    refine r5_13 (Q := fun (m2 : dc_M) (v : Int) (m' : dc_M) => r4_A (mp_E1 W w g) g2 m2 v m' ∧ r3_S (mp_E1 W w g) g2 m2 ∧ r5_f m m2) hu hg2 (m0 := m) hV hw P (fun c3 l2 m3 v3 m3' h3 S3 f3 => ?_) c 0 0 m1 v m' h (by decide) (by decide) S1 (fun r r0 r1 => by exfalso; clear h; omega) ⟨fun y => absurd rfl y, fun ⟨r, r0, r1, _⟩ => by exfalso; clear h; omega⟩ (fun x x0 x1 => (f1 124 x (by decide) (by decide)).trans (hall x x0 x1)) (fun k i a1 a2 a3 a4 a5 => f1 k i a3 a4)
    have O3 : mr_0 m3 S := O.cg K.1.2 (by have := K.2.1.2; omega) (fun k i z => f3 k i (by unfold mr_k at z; omega) (by unfold mr_k at z; omega) (by unfold mr_k at z; omega) (by unfold mr_k at z; omega) (by unfold mr_k at z; omega))
    have r3 : m3 114 43 = room := (f3 114 43 (by decide) (by decide) (by decide) (by decide) (by decide)).trans hroom
    obtain ⟨O1, O2, -, -, O5, -, -, -, O9, -⟩ := O3
    have k1 := K.1
    have k2 := K.2.1
    have k5 := K.2.2.2.1
    refine ⟨r4_188 hT S3 (by rw [O1]; exact k1) (fun x x0 x1 => by rw [O9 x x0 x1]; exact K.2.2.1 x x0 x1) (by rw [O5]; omega) (by rw [O2]; omega) (fun z => by rw [O2, r3] at z; rw [O2]; omega) c3 0 v3 m3' h3 (by decide) (by decide) (fun b b0 b1 => by exfalso; clear h3; omega), S3, f3⟩
  obtain ⟨m2, hA, S2, f2⟩ := key
  have O2 : mr_0 m2 S := O.cg K.1.2 (by have := K.2.1.2; omega) (fun k i z => f2 k i (by unfold mr_k at z; omega) (by unfold mr_k at z; omega) (by unfold mr_k at z; omega) (by unfold mr_k at z; omega) (by unfold mr_k at z; omega))
  obtain ⟨q1, q2, q3⟩ := r4_cA hT hA O2 ((f2 114 43 (by decide) (by decide) (by decide) (by decide) (by decide)).trans hroom) h40 K e0
  refine ⟨q1, q2, S2.fr (fun k i hk => q3 k i (fun z => by unfold mr_k at z; omega)), fun k i a1 a2 a3 a4 a5 a6 => (q3 k i a6).trans (f2 k i a1 a2 a3 a4 a5)⟩
/-! what is given in a TOTAL CYCLE -/
theorem np1 {x d : Nat} : x / 10 ^ d / 10 = x / 10 ^ (d + 1) := by rw [Nat.div_div_eq_div_mul, Nat.pow_succ]
theorem r5_tl {x0 : Int} (x1 : 1 ≤ x0) (x3 : x0 ≤ 3) {S : dc_M} {m0 : dc_M} (hw : ∀ w, 0 ≤ w → w < 4 → m0 134 w = S 2 w) (hS : ∀ w, 0 ≤ w → w < 4 → -999999 ≤ S 2 w ∧ S 2 w ≤ 999999) : ∀ c : Nat, (∀ (l : Int) (m : dc_M) (v : Int) (m' : dc_M), LM_218 x0 c 2 l 0 0 m v m' → 0 ≤ l → l ≤ 96 → (∀ (k : Nat) (i : Int), k ≠ 124 → m k i = m0 k i) → (∀ h, 0 ≤ h → h < l → m 124 h = -1) → (∀ (k : Nat) (i : Int), k ≠ 124 → m' k i = m0 k i) ∧ ∀ h, 0 ≤ h → h < 96 → m' 124 h = mp_gt S x0 h) ∧
    (∀ (l : Int) (m : dc_M) (v : Int) (m' : dc_M), LM_218 x0 c 35 l 0 0 m v m' → 0 ≤ l → l ≤ 4 → (∀ (k : Nat) (i : Int), k ≠ 124 → m k i = m0 k i) → (∀ h, 0 ≤ h → h < 68 + 6 * l → m 124 h = mp_gt S x0 h) → (∀ h, 92 ≤ h → h < 92 + l → m 124 h = mp_gt S x0 h) → (∀ (k : Nat) (i : Int), k ≠ 124 → m' k i = m0 k i) ∧ ∀ h, 0 ≤ h → h < 96 → m' 124 h = mp_gt S x0 h) ∧
    (∀ (l d : Int) (m : dc_M) (v : Int) (m' : dc_M), LM_218 x0 c 69 l (((S 2 l).natAbs / 10 ^ d.toNat : Nat) : Int) d m v m' → 0 ≤ l → l < 4 → 0 ≤ d → d ≤ 6 → (∀ (k : Nat) (i : Int), k ≠ 124 → m k i = m0 k i) → (∀ h, 0 ≤ h → h < 68 + 6 * l + d → m 124 h = mp_gt S x0 h) → (∀ h, 92 ≤ h → h < 92 + l → m 124 h = mp_gt S x0 h) → (∀ (k : Nat) (i : Int), k ≠ 124 → m' k i = m0 k i) ∧ ∀ h, 0 ≤ h → h < 96 → m' 124 h = mp_gt S x0 h) := by
  intro c
  induction c with
  | zero => exact ⟨fun _ _ _ _ h => h.elim, fun _ _ _ _ h => h.elim, fun _ _ _ _ _ h => h.elim⟩
  | succ c ih =>
    obtain ⟨ih2, ih35, ih69⟩ := ih
    refine ⟨?_, ?_, ?_⟩
    · intro l m v m' h l0 l1 fr hi
      have w1 : dc_w (l + 1) = l + 1 := dw (by omega) (by omega)
      have w2 : dc_w (65 + x0) = 65 + x0 := dw (by omega) (by omega)
      have w3 : dc_w (65 + x0 - 1) = 65 + x0 - 1 := dw (by omega) (by omega)
      replace h := lm_218_2.mp h
      rw [w1, w2, w3] at h
      rcases h with ⟨c1, -, m1, e1, h⟩ | ⟨c1, -, m1, e1, h⟩
      · refine ih35 0 m1 v m' h (by decide) (by decide) (fun k i hk => by rw [e1, dc_up_k hk]; exact fr k i hk) (fun x y0 y1 => ?_) (fun x y0 y1 => by exfalso; clear h; omega)
        rw [e1]
        unfold mp_gt
        by_cases z : x = 65 + x0 - 1
        · rw [z, dc_up_s, if_neg (by clear h; omega), if_pos (by clear h; omega), if_pos (by clear h; omega)]
        · rw [dc_up_i z, hi x y0 (by clear h; omega)]
          by_cases y : x < 65
          · rw [if_pos y]
          · rw [if_neg y, if_pos (by clear h; omega), if_neg (by clear h; omega)]
      · refine ih2 (l + 1) m1 v m' h (by clear h; omega) (by clear h; omega) (fun k i hk => by rw [e1, dc_up_k hk]; exact fr k i hk) (fun x y0 y1 => ?_)
        rw [e1]
        by_cases z : x = l
        · rw [z, dc_up_s]
        · rw [dc_up_i z]; exact hi x y0 (by clear h; omega)
    · intro l m v m' h l0 l1 fr hi hz
      have f134 : m 134 = m0 134 := funext fun i => fr 134 i (by decide)
      replace h := lm_218_35.mp h
      rw [f134] at h
      rcases h with ⟨c1, ev, em⟩ | ⟨c1, -, h⟩
      · rw [em]
        refine ⟨fr, fun x y0 y1 => ?_⟩
        by_cases z : x < 92
        · exact hi x y0 (by omega)
        · exact hz x (by omega) (by omega)
      · rw [hw l l0 (by clear h; omega)] at h
        have hS2 := hS l l0 (by clear h; omega)
        have w1 : dc_w (-(S 2 l)) = -(S 2 l) := dw (by clear h; omega) (by clear h; omega)
        rw [w1] at h
        have e : (((S 2 l).natAbs / 10 ^ (0 : Int).toNat : Nat) : Int) = ((S 2 l).natAbs : Int) := by
          rw [show (0 : Int).toNat = 0 from rfl, Nat.pow_zero, Nat.div_one]
        have go : LM_218 x0 c 69 l ((S 2 l).natAbs : Int) 0 m v m' → (∀ (k : Nat) (i : Int), k ≠ 124 → m' k i = m0 k i) ∧ ∀ h, 0 ≤ h → h < 96 → m' 124 h = mp_gt S x0 h := fun h => ih69 l 0 m v m' (by rw [e]; exact h) l0 (by clear h; omega) (by decide) (by decide) fr (fun x y0 y1 => hi x y0 (by clear h; omega)) hz
        rcases h with ⟨c2, -, h⟩ | ⟨c2, -, h⟩
        · refine go ?_
          rw [show ((S 2 l).natAbs : Int) = S 2 l by clear h; omega]
          exact h
        · refine go ?_
          rw [show ((S 2 l).natAbs : Int) = -(S 2 l) by clear h; omega]
          exact h
    · intro l d m v m' h l0 l1 d0 d1 fr hi hz
      have f134 : m 134 = m0 134 := funext fun i => fr 134 i (by decide)
      have w1 : dc_w (l + 1) = l + 1 := dw (by omega) (by omega)
      have w2 : dc_w (92 + l) = 92 + l := dw (by omega) (by omega)
      have w3 : dc_w (6 * l) = 6 * l := dw (by omega) (by omega)
      have w4 : dc_w (68 + 6 * l) = 68 + 6 * l := dw (by omega) (by omega)
      have w5 : dc_w (68 + 6 * l + d) = 68 + 6 * l + d := dw (by omega) (by omega)
      have w6 : dc_w (d + 1) = d + 1 := dw (by omega) (by omega)
      have hq : (0 : Int) ≤ (((S 2 l).natAbs / 10 ^ d.toNat : Nat) : Int) := Int.natCast_nonneg _
      replace h := lm_218_69.mp h
      rw [f134, w1, w2, w3, w4, w5, w6, hw l l0 l1, drm hq, ddv hq] at h
      rcases h with ⟨c1, -, h⟩ | ⟨c1, -, m1, e1, h⟩
      · have ed : d = 6 := by clear h; omega
        have step : ∀ (b : Int) (m1 : dc_M), m1 = dc_up m 124 (92 + l) b → b = mp_gt S x0 (92 + l) → LM_218 x0 c 35 (l + 1) 0 0 m1 v m' → (∀ (k : Nat) (i : Int), k ≠ 124 → m' k i = m0 k i) ∧ ∀ h, 0 ≤ h → h < 96 → m' 124 h = mp_gt S x0 h := by
          intro b m1 e1 eb h
          refine ih35 (l + 1) m1 v m' h (by clear h; omega) (by clear h; omega) (fun k i hk => by rw [e1, dc_up_k hk]; exact fr k i hk) (fun x y0 y1 => ?_) (fun x y0 y1 => ?_)
          · rw [e1, dc_up_i (by clear h; omega)]; exact hi x y0 (by clear h; omega)
          · rw [e1]
            by_cases z : x = 92 + l
            · rw [z, dc_up_s, eb]
            · rw [dc_up_i z]; exact hz x y0 (by clear h; omega)
        have eg : mp_gt S x0 (92 + l) = if S 2 l < 0 then 1 else -1 := by
          unfold mp_gt
          rw [if_neg (by clear h; omega), if_neg (by clear h; omega), if_neg (by clear h; omega), show 92 + l - 92 = l by clear h; omega]
        rcases h with ⟨c2, -, m1, e1, h⟩ | ⟨c2, -, m1, e1, h⟩
        · exact step _ m1 e1 (by rw [eg, if_neg (by clear h; omega)]) h
        · exact step _ m1 e1 (by rw [eg, if_pos (by clear h; omega)]) h
      · have ed : (((S 2 l).natAbs / 10 ^ d.toNat : Nat) : Int) / 10 = (((S 2 l).natAbs / 10 ^ (d + 1).toNat : Nat) : Int) := by
          rw [show (d + 1).toNat = d.toNat + 1 by clear h; omega, ← np1]
          rfl
        rw [ed] at h
        refine ih69 l (d + 1) m1 v m' h l0 l1 (by clear h; omega) (by clear h; omega) (fun k i hk => by rw [e1, dc_up_k hk]; exact fr k i hk) (fun x y0 y1 => ?_) (fun x y0 y1 => ?_)
        · rw [e1]
          by_cases z : x = 68 + 6 * l + d
          · rw [z, dc_up_s]
            unfold mp_gt
            rw [if_neg (by clear h; omega), if_neg (by clear h; omega), if_pos (by clear h; omega), show (68 + 6 * l + d - 68) / 6 = l by clear h; omega, show (68 + 6 * l + d - 68) % 6 = d by clear h; omega]
            rfl
          · rw [dc_up_i z]; exact hi x y0 (by clear h; omega)
        · rw [e1, dc_up_i (by clear h; omega)]; exact hz x y0 y1
theorem r5_total {x0 : Int} (x1 : 1 ≤ x0) (x3 : x0 ≤ 3) {S : dc_M} {m : dc_M} (hw : ∀ w, 0 ≤ w → w < 4 → m 134 w = S 2 w) (hS : ∀ w, 0 ≤ w → w < 4 → -999999 ≤ S 2 w ∧ S 2 w ≤ 999999) {v : Int} {m' : dc_M} (h : D_218 x0 m v m') : (∀ (k : Nat) (i : Int), k ≠ 124 → m' k i = m k i) ∧ ∀ h, 0 ≤ h → h < 96 → m' 124 h = mp_gt S x0 h := by
  obtain ⟨c, h⟩ := h
  exact (r5_tl x1 x3 hw hS c).1 0 m v m' h (by decide) (by decide) (fun _ _ _ => rfl) (fun x y0 y1 => by exfalso; clear h; omega)
/-- digit(k, n) -/
def r5_D (dk : Int → Int → Int) (n : Int) (m : dc_M) : Prop := m 114 41 = n ∧ (0 ≤ n ∧ n ≤ 40) ∧ (∀ k c, 0 ≤ dk k c ∧ dk k c ≤ 31) ∧ ∀ k c, 0 ≤ k → k < n → 0 ≤ c → c < 20 → m 123 (20 * k + c) = dk k c
theorem r5_D.cg {dk : Int → Int → Int} {n : Int} {m m2 : dc_M} (h : r5_D dk n m) (e : m2 114 41 = m 114 41) (f : ∀ i, m2 123 i = m 123 i) : r5_D dk n m2 := ⟨e.trans h.1, h.2.1, h.2.2.1, fun k c k0 k1 c0 c1 => (f _).trans (h.2.2.2 k c k0 k1 c0 c1)⟩
theorem r5_dig {dk : Int → Int → Int} {n : Int} {m : dc_M} (hD : r5_D dk n m) {k c : Int} (k0 : 0 ≤ k) (k1 : k ≤ 40) (c0 : 0 ≤ c) (c1 : c < 20) {v : Int} {m' : dc_M} (h : D_216 k c m v m') : m' = m ∧ v = if k < n then mp_dg (dk k c) else -1 := by
  obtain ⟨d1, d2, d3, d4⟩ := hD
  have w1 : dc_w (20 * k) = 20 * k := dw (by omega) (by omega)
  have w2 : dc_w (20 * k + c) = 20 * k + c := dw (by omega) (by omega)
  unfold D_216 at h
  rw [w1, w2, d1] at h
  rcases h with ⟨z, -, h⟩ | ⟨z, ev, em⟩
  · have q := d3 k c
    rw [d4 k c k0 z c0 c1, drm q.1] at h
    rw [if_pos z]
    unfold mp_dg
    rcases h with ⟨y, ev, em⟩ | ⟨y, ev, em⟩
    · exact ⟨em, by rw [if_neg y]; exact ev⟩
    · exact ⟨em, by rw [if_pos (Classical.not_not.mp y)]; exact ev⟩
  · exact ⟨em, by rw [if_neg z]; exact ev⟩
